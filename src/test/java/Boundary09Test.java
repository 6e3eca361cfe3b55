import java.util.Arrays;

/** The edges of promise 9, apply, and of the term APPLYING. */
public final class Boundary09Test {
  private static final int[] NOTHING = {};
  private static final int[] FIRST = Bytes.text("abcdefgh");
  private static final int[] FULL = Bytes.mixed(300);
  private static final int[] FULL_SIZE = {172, 2};
  private static final int[] ZERO_CHECK = {0, 0, 0, 0};

  public static void main(String[] args) {
    anEmptyPatch();
    everyByteOfTheHeadIsNeeded();
    aHeadAloneIsEnough();
    aVarintOfFourBytes();
    aVarintOfFiveBytes();
    aVarintOfMoreBytesThanNeeded();
    aVarintThatIsCutOff();
    allOfTheHeadIsReadFirst();
    anotherSizeOfFirst();
    anotherCheckOfFirst();
    sizeGoesBeforeCheck();
    checkGoesBeforeTooLargeASecond();
    tooLargeASecondGoesBeforeTheSteps();
    aSecondOf300Bytes();
    aSecondOf301Bytes();
    aLengthOfZero();
    lackingBytesOfAnAdd();
    aLackingPlaceOfACopy();
    wrongVarintsInSteps();
    aCopyAtTheEdgesOfFirst();
    aCopyBesideTheEdgesOfFirst();
    aCopyOutOfAnEmptyFirst();
    aCopyBehindACopy();
    theLargestNumbersOfACopy();
    justAsManyBytesAsSecond();
    oneByteMoreThanSecond();
    oneByteMoreThan300();
    aStepMoreThanSecondWants();
    formGoesBeforePlaceAndPlaceBeforeRoom();
    anEarlierStepGoesBeforeALaterOne();
    oneByteFewerThanSecond();
    noStepsForASecondThatIsNotEmpty();
    anotherCheckOfSecond();
    tooFewBytesGoBeforeTheirCheck();
    aFullPatch();
    aFullPatchOfOneAdd();
    shortCopiesAndLongAdds();
    outputIsEmptyThen();
    outputIsNewEachTime();
    secondAndStepsAreNotAsked();
    Due.end();
  }

  private static Counted applied(String test, int due, int[] first, int... patch) {
    Counted x = new Counted(test + " " + Arrays.toString(patch));
    x.give(0, first);
    x.give(2, patch);
    x.apply(due);
    if (due < 0) {
      x.size(3, 0);
      x.byteAt(3, 0, -1);
      x.check(3, 0);
    }
    return x;
  }

  /** The right head of a SECOND, and STEPS. */
  private static void steps(String test, int due, String second, int... steps) {
    applied(test, due, FIRST, Bytes.patch(FIRST, Bytes.text(second), steps));
  }

  private static void right(String test, String second, int... steps) {
    int[] row = Bytes.text(second);
    applied(test, row.length, FIRST, Bytes.patch(FIRST, row, steps)).row(3, row);
  }

  /** A head with wrong CHECKS, of sizes that are told by their bytes. */
  private static void head(String test, int due, int[] sizes) {
    applied(test, due, FIRST, Bytes.join(sizes, new int[8]));
  }

  /** "or bytes are lacking (in the head: both sizes and both CHECKS ..)" */
  private static void anEmptyPatch() {
    Counted x = new Counted("no PATCH");
    x.apply(-1);
    x.give(0, FIRST);
    x.apply(-1);
    x.size(3, 0);
  }

  private static void everyByteOfTheHeadIsNeeded() {
    int[] whole = Bytes.patch(FIRST, NOTHING);
    int[] long4 = Bytes.patch(FULL_SIZE, FULL_SIZE, FULL, FULL, 217, 4, 0);
    for (int n = 0; n < 10; n++) {
      applied("a head of " + n, -1, FIRST, Bytes.part(whole, 0, n));
    }
    for (int n = 0; n < 12; n++) {
      applied("a longer head of " + n, -1, FULL, Bytes.part(long4, 0, n));
    }
  }

  private static void aHeadAloneIsEnough() {
    right("a head alone", "");
    applied("an empty head", 0, NOTHING, new int[10]).row(3);
    Counted x = new Counted("a head for empty rows, made");
    x.make(10);
    x.apply(0);
    x.row(3);
  }

  /** "a VARINT that isn't one of up to four bytes as told" */
  private static void aVarintOfFourBytes() {
    head("the greatest of four", -2, new int[] {255, 255, 255, 127, 0});
    head("the least of four", -2, new int[] {128, 128, 128, 1, 0});
    head("the greatest of three", -2, new int[] {255, 255, 127, 0});
    head("SECOND's of four", -3, new int[] {8, 255, 255, 255, 127});
    applied("SECOND's of four", -4, FIRST,
        Bytes.patch(new int[] {8}, new int[] {128, 128, 128, 1}, FIRST, NOTHING));
    steps("a length of four", -5, "a", 129, 128, 128, 1, 0);
    steps("a place of four", -5, "a", 3, 128, 128, 128, 1);
  }

  private static void aVarintOfFiveBytes() {
    head("FIRST's of five", -1, new int[] {136, 128, 128, 128, 1, 0});
    head("FIRST's of five, the last 0", -1, new int[] {136, 128, 128, 128, 0, 0});
    head("SECOND's of five", -1, new int[] {8, 255, 255, 255, 255, 1});
    head("no end", -1, Bytes.times(40, 128));
    steps("a length of five", -1, "a", 130, 128, 128, 128, 1, 'a');
    steps("a place of five", -1, "a", 3, 128, 128, 128, 128, 1);
    applied("900 bytes without an end", -1, FIRST, Bytes.times(900, 255));
  }

  /** "just as many as needed; 0 is one byte" */
  private static void aVarintOfMoreBytesThanNeeded() {
    head("two for 8", -1, new int[] {136, 0, 0});
    head("three for 8", -1, new int[] {136, 128, 0, 0});
    head("four for 8", -1, new int[] {136, 128, 128, 0, 0});
    head("two for 127", -1, new int[] {255, 0, 0});
    head("two for 0", -1, new int[] {8, 128, 0});
    applied("two for 0 of an empty FIRST", -1, NOTHING, Bytes.join(new int[] {128, 0, 0}, new int[8]));
    steps("two for a length", -1, "a", 130, 0, 'a');
    steps("two for a place", -1, "a", 3, 128, 0);
    steps("one for a place", 1, "a", 3, 0);
  }

  private static void aVarintThatIsCutOff() {
    for (int n = 1; n <= 4; n++) {
      applied("a cut size", -1, FIRST, Bytes.times(n, 200));
      applied("a second cut size", -1, FIRST, Bytes.join(new int[] {8}, Bytes.times(n, 200)));
      steps("a cut length", -1, "a", Bytes.times(n, 200));
      steps("a cut place", -1, "a", Bytes.join(new int[] {3}, Bytes.times(n, 200)));
    }
  }

  /** "all of it is read first" */
  private static void allOfTheHeadIsReadFirst() {
    applied("a wrong size, and a byte lacking", -1, FIRST, Bytes.join(new int[] {7, 0}, new int[7]));
    applied("a wrong size, and a wrong VARINT", -1, FIRST, Bytes.join(new int[] {7, 128, 0}, new int[8]));
    applied("a wrong CHECK, and a byte lacking", -1, FIRST, Bytes.join(new int[] {8, 0}, new int[7]));
    applied("too large, and a byte lacking", -1, FIRST,
        Bytes.join(new int[] {8, 173, 2}, Bytes.word(Bytes.checkOf(FIRST)), new int[3]));
  }

  /** "- 2 FIRST's size isn't FIRST's" */
  private static void anotherSizeOfFirst() {
    int[] check = Bytes.word(Bytes.checkOf(FIRST));
    for (int[] size : new int[][] {{0}, {7}, {9}, {127}, {136, 1}, {136, 2}, {136, 128, 1}, {136, 128, 128, 1}}) {
      applied("another size", -2, FIRST, Bytes.join(size, new int[] {0}, check, ZERO_CHECK));
    }
    applied("1 of an empty FIRST", -2, NOTHING, Bytes.join(new int[] {1, 0}, new int[8]));
    applied("299 of 300", -2, FULL, Bytes.patch(new int[] {171, 2}, new int[] {0}, FULL, NOTHING));
    applied("301 of 300", -2, FULL, Bytes.patch(new int[] {173, 2}, new int[] {0}, FULL, NOTHING));
    applied("300 of 300", 0, FULL, Bytes.patch(FULL_SIZE, new int[] {0}, FULL, NOTHING));
  }

  /** "- 3 nor its CHECK" */
  private static void anotherCheckOfFirst() {
    for (int bit = 0; bit < 32; bit++) {
      int other = Bytes.checkOf(FIRST) ^ (1 << bit);
      applied("bit " + bit, -3, FIRST, Bytes.join(new int[] {8, 0}, Bytes.word(other), ZERO_CHECK));
    }
    applied("1 of an empty FIRST", -3, NOTHING, 0, 0, 0, 0, 0, 1, 0, 0, 0, 0);
    int[] patch = Bytes.patch(FIRST, NOTHING);
    applied("another first byte", -3, Bytes.text("Abcdefgh"), patch);
    applied("another last byte", -3, Bytes.text("abcdefgH"), patch);
  }

  private static void sizeGoesBeforeCheck() {
    applied("size and CHECK", -2, FIRST, Bytes.join(new int[] {9, 0}, new int[8]));
    applied("size and too large", -2, FIRST,
        Bytes.patch(new int[] {9}, new int[] {173, 2}, FIRST, NOTHING));
    applied("size and STEPS", -2, FIRST, Bytes.join(new int[] {9, 0}, new int[9]));
  }

  private static void checkGoesBeforeTooLargeASecond() {
    applied("CHECK and too large", -3, FIRST, Bytes.join(new int[] {8, 173, 2}, new int[8]));
    applied("CHECK and STEPS", -3, FIRST, Bytes.join(new int[] {8, 0}, new int[9]));
  }

  private static void tooLargeASecondGoesBeforeTheSteps() {
    for (int[] step : new int[][] {{0}, {1}, {128}, {3, 16}, {2, 'a'}}) {
      applied("too large, and a STEP", -4, FIRST,
          Bytes.patch(new int[] {8}, new int[] {173, 2}, FIRST, NOTHING, step));
    }
  }

  /** "- 4 SECOND's size is above 300" */
  private static void aSecondOf300Bytes() {
    int[] second = Bytes.times(300, 9);
    applied("300 added", 300, FIRST, Bytes.patch(new int[] {8}, FULL_SIZE, FIRST, second,
        Bytes.join(new int[] {216, 4}, second))).row(3, second);
    applied("300 copied", 300, FULL, Bytes.patch(FULL_SIZE, FULL_SIZE, FULL, FULL, 217, 4, 0)).row(3, FULL);
    applied("300 lacking", -7, FIRST, Bytes.patch(new int[] {8}, FULL_SIZE, FIRST, NOTHING));
  }

  private static void aSecondOf301Bytes() {
    applied("301", -4, FIRST, Bytes.patch(new int[] {8}, new int[] {173, 2}, FIRST, NOTHING));
    int[] second = Bytes.times(301, 9);
    applied("301 added", -4, FIRST, Bytes.patch(new int[] {8}, new int[] {173, 2}, FIRST, second,
        Bytes.join(new int[] {218, 4}, second)));
    applied("the most", -4, FIRST, Bytes.patch(new int[] {8}, new int[] {255, 255, 255, 127}, FIRST, NOTHING));
  }

  /** "- 1 likewise, or a length 0" */
  private static void aLengthOfZero() {
    steps("an ADD of 0", -1, "", 0);
    steps("a COPY of 0", -1, "", 1, 0);
    steps("a COPY of 0 at the end", -1, "", 1);
    steps("an ADD of 0 behind the last", -1, "a", 2, 'a', 0);
    steps("a COPY of 0 behind the last", -1, "a", 2, 'a', 1, 0);
    steps("a COPY of 0 outside FIRST", -1, "a", 1, 99, 2, 'a');
    steps("an ADD of 0 between", -1, "ab", 2, 'a', 0, 2, 'b');
  }

  private static void lackingBytesOfAnAdd() {
    steps("all of one", -1, "a", 2);
    steps("one of two", -1, "ab", 4, 'a');
    steps("none of two", 2, "ab", 4, 'a', 'b');
    steps("one of many", -1, "abc", 2, 'a', 4, 'b');
    steps("most of the most", -1, "a", 254, 255, 255, 127, 'a');
  }

  private static void aLackingPlaceOfACopy() {
    steps("no place", -1, "a", 3);
    steps("no place behind an ADD", -1, "ab", 2, 'a', 3);
    steps("no place of a long COPY", -1, "a", 99);
    steps("a place", 1, "a", 3, 0);
  }

  private static void wrongVarintsInSteps() {
    steps("a length", -1, "ab", 2, 'a', 131, 0, 0);
    steps("a place", -1, "ab", 2, 'a', 3, 130, 0);
    steps("a length without an end", -1, "ab", 3, 0, 128);
    steps("a place without an end", -1, "ab", 3, 0, 3, 128);
  }

  /** "- 5 a COPY lies not wholly in FIRST" */
  private static void aCopyAtTheEdgesOfFirst() {
    right("the first byte", "a", 3, 0);
    right("the last byte", "h", 3, 14);
    right("all", "abcdefgh", 17, 0);
    right("the last seven", "bcdefgh", 15, 2);
    right("the first seven", "abcdefg", 15, 0);
    applied("the last of 300", 1, FULL, Bytes.patch(FULL_SIZE, new int[] {1}, FULL, new int[] {98}, 3, 214, 4))
        .row(3, 98);
  }

  private static void aCopyBesideTheEdgesOfFirst() {
    steps("one before", -5, "a", 3, 1);
    steps("from one before", -5, "ab", 5, 1);
    steps("one behind", -5, "a", 3, 16);
    steps("to one behind", -5, "ab", 5, 14);
    steps("two behind", -5, "a", 3, 18);
    steps("one more than all", -5, "abcdefghi", 19, 0);
    steps("all, from 1 on", -5, "abcdefgh", 17, 2);
    steps("all, from - 1 on", -5, "abcdefgh", 17, 1);
    applied("one behind 300", -5, FULL, Bytes.patch(FULL_SIZE, new int[] {1}, FULL, NOTHING, 3, 216, 4));
    applied("to one behind 300", -5, FULL, Bytes.patch(FULL_SIZE, new int[] {2}, FULL, NOTHING, 5, 214, 4));
    applied("301 of 300", -5, FULL, Bytes.patch(FULL_SIZE, FULL_SIZE, FULL, NOTHING, 219, 4, 0));
  }

  private static void aCopyOutOfAnEmptyFirst() {
    applied("of nothing", -5, NOTHING, Bytes.patch(NOTHING, new int[] {0}, 3, 0));
    applied("of nothing", -5, NOTHING, Bytes.patch(NOTHING, new int[] {0}, 3, 1));
  }

  private static void aCopyBehindACopy() {
    right("right behind", "abcd", 5, 0, 5, 0);
    right("back to the beginning", "efab", 5, 8, 5, 11);
    steps("back before the beginning", -5, "efab", 5, 8, 5, 13);
    right("forth to the end", "cdgh", 5, 4, 5, 4);
    steps("forth behind the end", -5, "cdgh", 5, 4, 5, 6);
    right("behind an ADD", "ab1cd", 5, 0, 2, '1', 5, 0);
    right("the same again", "hhh", 3, 14, 3, 1, 3, 1);
    steps("behind the last", -5, "hh", 3, 14, 3, 0);
  }

  private static void theLargestNumbersOfACopy() {
    steps("the longest", -5, "a", 255, 255, 255, 127, 0);
    steps("the farthest forth", -5, "a", 3, 254, 255, 255, 127);
    steps("the farthest back", -5, "a", 3, 255, 255, 255, 127);
    steps("both", -5, "a", 255, 255, 255, 127, 254, 255, 255, 127);
    steps("the longest from the farthest back", -5, "a", 255, 255, 255, 127, 255, 255, 255, 127);
    steps("behind a COPY", -5, "hh", 3, 14, 3, 254, 255, 255, 127);
  }

  /** "- 6 there would be more bytes than SECOND's size" */
  private static void justAsManyBytesAsSecond() {
    right("one ADD", "xyz", 6, 'x', 'y', 'z');
    right("three ADDS", "xyz", 2, 'x', 2, 'y', 2, 'z');
    right("one COPY", "abc", 7, 0);
    right("a COPY and an ADD", "abz", 5, 0, 2, 'z');
  }

  private static void oneByteMoreThanSecond() {
    steps("one ADD", -6, "xyz", 8, 'x', 'y', 'z', '!');
    steps("two ADDS", -6, "xyz", 4, 'x', 'y', 4, 'z', '!');
    steps("one COPY", -6, "abc", 9, 0);
    steps("a COPY and an ADD", -6, "abz", 5, 0, 4, 'z', '!');
    steps("an ADD and a COPY", -6, "zab", 2, 'z', 7, 0);
    steps("an ADD for an empty SECOND", -6, "", 2, 'z');
    steps("a COPY for an empty SECOND", -6, "", 3, 0);
  }

  private static void oneByteMoreThan300() {
    applied("301 added", -6, FIRST, Bytes.patch(new int[] {8}, FULL_SIZE, FIRST, NOTHING,
        Bytes.join(new int[] {218, 4}, Bytes.times(301, 9))));
    applied("300 copied and 1 added", -6, FULL,
        Bytes.patch(FULL_SIZE, FULL_SIZE, FULL, FULL, 217, 4, 0, 2, 9));
    applied("300 copied and 1 copied", -6, FULL,
        Bytes.patch(FULL_SIZE, FULL_SIZE, FULL, FULL, 217, 4, 0, 3, 1));
    applied("299 copied and 2 copied", -6, FULL,
        Bytes.patch(FULL_SIZE, FULL_SIZE, FULL, FULL, 215, 4, 0, 5, 3));
  }

  /** "They end where the PATCH ends (behind a STEP)." */
  private static void aStepMoreThanSecondWants() {
    steps("one more ADD", -6, "ab", 5, 0, 2, 'c');
    steps("one more COPY", -6, "ab", 5, 0, 3, 0);
    steps("one more byte", -1, "ab", 5, 0, 3);
    steps("one more 0", -1, "ab", 5, 0, 0);
  }

  private static void formGoesBeforePlaceAndPlaceBeforeRoom() {
    steps("an ADD of too many that lacks one", -1, "a", 6, 'a', 'b');
    steps("a long COPY without a place", -1, "a", 41);
    steps("a COPY of too many outside FIRST", -5, "a", 19, 0);
    steps("a COPY of too many before FIRST", -5, "a", 5, 1);
    steps("a COPY of too many in FIRST", -6, "a", 17, 0);
  }

  private static void anEarlierStepGoesBeforeALaterOne() {
    steps("- 6, then - 1", -6, "a", 5, 0, 0);
    steps("- 6, then - 5", -6, "a", 5, 0, 3, 99);
    steps("- 5, then - 1", -5, "a", 3, 99, 0);
    steps("- 5, then - 6", -5, "a", 3, 99, 5, 0);
    steps("- 1, then - 5", -1, "a", 0, 3, 99);
    steps("- 1, then - 6", -1, "a", 1, 0, 5, 0);
    steps("a right one, then - 5", -5, "abc", 3, 0, 3, 99);
  }

  /** "- 7 there are fewer bytes than SECOND's size" */
  private static void oneByteFewerThanSecond() {
    steps("an ADD", -7, "xyz", 4, 'x', 'y');
    steps("a COPY", -7, "abc", 5, 0);
    applied("299 of 300", -7, FULL, Bytes.patch(FULL_SIZE, FULL_SIZE, FULL, FULL, 215, 4, 0));
  }

  private static void noStepsForASecondThatIsNotEmpty() {
    steps("none of one", -7, "a");
    applied("none of 300", -7, FULL, Bytes.patch(FULL_SIZE, FULL_SIZE, FULL, FULL));
    applied("none of one 0", -7, NOTHING, Bytes.patch(NOTHING, new int[] {0}));
  }

  /** "- 8 their CHECK isn't SECOND's" */
  private static void anotherCheckOfSecond() {
    int[] second = Bytes.text("ab");
    for (int bit = 0; bit < 32; bit++) {
      int other = Bytes.checkOf(second) ^ (1 << bit);
      applied("bit " + bit, -8, FIRST,
          Bytes.join(new int[] {8, 2}, Bytes.word(Bytes.checkOf(FIRST)), Bytes.word(other), new int[] {5, 0}));
    }
    steps("another byte", -8, "ab", 4, 'a', 'c');
    steps("the other way round", -8, "ab", 4, 'b', 'a');
    applied("1 of an empty SECOND", -8, NOTHING, 0, 0, 0, 0, 0, 0, 0, 0, 0, 1);
  }

  private static void tooFewBytesGoBeforeTheirCheck() {
    steps("other ones and too few", -7, "ab", 2, 'x');
  }

  /** "PATCH: at most 900." */
  private static void aFullPatch() {
    // 296 COPIES of one byte with places of two bytes each, to and fro, behind a head of 12.
    int[] steps = new int[888];
    int[] second = new int[296];
    for (int k = 0; k < 296; k++) {
      boolean forth = k % 2 == 0;
      int z = k == 0 ? 400 : forth ? 398 : 401;
      steps[3 * k] = 3;
      steps[3 * k + 1] = z % 128 + 128;
      steps[3 * k + 2] = z / 128;
      second[k] = forth ? 200 : 0;
    }
    int[] patch = Bytes.patch(FULL_SIZE, new int[] {168, 2}, FULL, second, steps);
    Due.is("a full PATCH has", patch.length, 900);
    applied("a full PATCH", 296, FULL, patch).row(3, second);
    applied("a full PATCH less one byte", -1, FULL, Bytes.part(patch, 0, 899));
    applied("a full PATCH less a STEP", -7, FULL, Bytes.part(patch, 0, 897));
  }

  private static void aFullPatchOfOneAdd() {
    // Behind a head of 12 and a length of two bytes 886 have room: too many for any SECOND.
    applied("886 added", -6, FULL, Bytes.patch(FULL_SIZE, FULL_SIZE, FULL, FULL,
        Bytes.join(new int[] {236, 13}, new int[886])));
    applied("886 of 887 added", -1, FULL, Bytes.patch(FULL_SIZE, FULL_SIZE, FULL, FULL,
        Bytes.join(new int[] {238, 13}, new int[886])));
  }

  /** A PATCH need not be one that make would make. */
  private static void shortCopiesAndLongAdds() {
    right("a COPY of one", "c", 3, 4);
    right("a COPY of three", "cde", 7, 4);
    int[] second = Bytes.times(41, 7);
    applied("an ADD of 41", 41, FIRST, Bytes.patch(FIRST, second, Bytes.join(new int[] {82}, second))).row(3, second);
  }

  /** "OUTPUT is empty then" */
  private static void outputIsEmptyThen() {
    int[] good = Bytes.patch(FIRST, Bytes.text("abc"), 7, 0);
    int[][] wrong = {
      {}, Bytes.patch(NOTHING, NOTHING), Bytes.join(new int[] {8, 0}, new int[8]),
      Bytes.patch(new int[] {8}, new int[] {173, 2}, FIRST, NOTHING),
      Bytes.patch(FIRST, Bytes.text("ab"), 3, 0, 3, 99), Bytes.patch(FIRST, Bytes.text("ab"), 3, 0, 5, 0),
      Bytes.patch(FIRST, Bytes.text("ab"), 3, 0), Bytes.patch(FIRST, Bytes.text("ab"), 5, 2)};
    for (int k = 0; k < wrong.length; k++) {
      Counted x = applied("before a wrong one", 3, FIRST, good);
      x.row(3, Bytes.text("abc"));
      x.give(2, wrong[k]);
      x.apply(-1 - k);
      x.row(3);
      x.give(2, good);
      x.apply(3);
      x.row(3, Bytes.text("abc"));
    }
  }

  private static void outputIsNewEachTime() {
    Counted x = applied("a long one", 8, FIRST, Bytes.patch(FIRST, FIRST, 17, 0));
    x.apply(8);
    x.row(3, FIRST);
    x.give(2, Bytes.patch(FIRST, Bytes.text("h"), 3, 14));
    x.apply(1);
    x.row(3, 'h');
    x.give(2, Bytes.patch(FIRST, NOTHING));
    x.apply(0);
    x.row(3);
  }

  private static void secondAndStepsAreNotAsked() {
    Counted x = Counted.with("SECOND is not asked", FIRST, Bytes.text("efghabcd"));
    x.make(14);
    x.inPlace(4);
    x.give(1, 1, 2, 3);
    x.apply(8);
    x.row(3, Bytes.text("efghabcd"));
    x.row(1, 1, 2, 3);
    x.row(0, FIRST);
    x.row(4, Bytes.text("efghabcd"));
    x.size(2, 14);
    x.stepIs(0, 1, 0, 4, 4, 1, 1);
  }
}

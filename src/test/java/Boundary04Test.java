/** The edges of promise 4, make, and of the terms STEPS, VARINT and PATCH. */
public final class Boundary04Test {
  private static final int[] NOTHING = {};
  /** 300 bytes, each run of which has one place alone. */
  private static final int[] FULL = Bytes.mixed(300);
  private static final int[] FULL_SIZE = {172, 2};

  public static void main(String[] args) {
    bothRowsAreEmpty();
    secondIsEmpty();
    firstIsEmpty();
    aRunOfThreeIsNotCopied();
    aRunOfFourIsCopied();
    aRunMayEndWhereFirstEnds();
    aRunDoesNotGoOnAtTheBeginningOfFirst();
    aRunEndsWhereSecondEnds();
    aRunEndsAtTheFirstOtherByte();
    aRunIsNoLongerThanFirst();
    theLongestRunMayBeAllOfBothRows();
    ofRunsOfThisLengthTheLeastPlace();
    aLongerRunGoesBeforeALesserPlace();
    aRunOfFourGoesBeforeALongerOneBehindIt();
    anAddHasUpTo40Bytes();
    the41stByteIsAnAddOfItsOwn();
    an81stByteIsAThirdAdd();
    anAddDoesNotGoOnBehindACopy();
    aFullAddBeforeACopy();
    allOfTheLargestSecondIsAdded();
    varintsOfSizes();
    varintsOfACopysLength();
    varintsOfAnAddsLength();
    varintsOfAFirstPlace();
    varintsOfPlacesBehindACopy();
    placesAreCountedFromACopyAndNotFromAnAdd();
    theHighestByteOfACheckIsFirst();
    makeTakesThePlaceOfAFullPatch();
    makeLeavesTheTape();
    theStepsAreTheseUntilMadeAgain();
    fewerStepsMadeAgain();
    Due.end();
  }

  private static Counted made(String test, String first, String second, int steps, int... stepBytes) {
    int[] a = Bytes.text(first);
    int[] b = Bytes.text(second);
    Counted x = Counted.with(test, a, b);
    x.made(steps, Bytes.patch(a, b, stepBytes));
    return x;
  }

  private static void bothRowsAreEmpty() {
    Counted x = new Counted("both empty");
    x.made(0, new int[10]);
    x.noStep(0);
  }

  private static void secondIsEmpty() {
    made("SECOND empty", "abcd", "", 0).noStep(0);
    Counted x = Counted.with("SECOND empty, FIRST full", FULL, NOTHING);
    x.made(0, Bytes.patch(FULL_SIZE, new int[] {0}, FULL, NOTHING));
    x.noStep(0);
  }

  private static void firstIsEmpty() {
    made("FIRST empty", "", "a", 1, 2, 'a').stepIs(0, 0, 0, 1, -1);
    made("FIRST empty", "", "aaaa", 1, 8, 'a', 'a', 'a', 'a').stepIs(0, 0, 0, 4, -1);
  }

  /** "If L is 4 or more, the next STEP is a COPY" */
  private static void aRunOfThreeIsNotCopied() {
    made("three of three", "abc", "abc", 1, 6, 'a', 'b', 'c').stepIs(0, 0, 0, 3, -1);
    made("three of more", "xabcy", "zabcz", 1, 10, 'z', 'a', 'b', 'c', 'z').stepIs(0, 0, 0, 5, -1);
    made("three by three", "abc", "abcabc", 1, 12, 'a', 'b', 'c', 'a', 'b', 'c').noStep(1);
  }

  private static void aRunOfFourIsCopied() {
    made("four of four", "abcd", "abcd", 1, 9, 0).stepIs(0, 1, 0, 4, 0);
    Counted x = made("four of more", "xabcdy", "zabcdz", 3, 2, 'z', 9, 2, 2, 'z');
    x.stepIs(0, 0, 0, 1, -1);
    x.stepIs(1, 1, 1, 4, 1);
    x.stepIs(2, 0, 5, 1, -1);
    made("five of five", "abcde", "abcde", 1, 11, 0).stepIs(0, 1, 0, 5, 0);
  }

  private static void aRunMayEndWhereFirstEnds() {
    made("at the end", "xyzabcd", "abcd", 1, 9, 6).stepIs(0, 1, 0, 4, 3);
    Counted x = Counted.with("at a full end", FULL, Bytes.part(FULL, 296, 4));
    x.made(1, Bytes.patch(FULL_SIZE, new int[] {4}, FULL, Bytes.part(FULL, 296, 4), 9, 208, 4));
    x.stepIs(0, 1, 0, 4, 296);
  }

  private static void aRunDoesNotGoOnAtTheBeginningOfFirst() {
    made("no ring", "abcdef", "defabc", 1, 12, 'd', 'e', 'f', 'a', 'b', 'c').stepIs(0, 0, 0, 6, -1);
    Counted x = made("no ring of copies", "abcdef", "cdefabcd", 2, 9, 4, 9, 11);
    x.stepIs(0, 1, 0, 4, 2);
    x.stepIs(1, 1, 4, 4, 0);
  }

  private static void aRunEndsWhereSecondEnds() {
    made("three at the end", "abcdef", "xabc", 1, 8, 'x', 'a', 'b', 'c').stepIs(0, 0, 0, 4, -1);
    made("four at the end", "abcdef", "xabcd", 2, 2, 'x', 9, 0).stepIs(1, 1, 1, 4, 0);
  }

  private static void aRunEndsAtTheFirstOtherByte() {
    // 0 and 255 are bytes like others: neither ends a row.
    int[] first = {0, 0, 0, 0, 255, 255, 255, 255};
    int[] second = {0, 0, 0, 0, 255, 255, 255, 0};
    Counted x = Counted.with("0 and 255", first, second);
    x.made(2, Bytes.patch(first, second, 15, 0, 2, 0));
    x.stepIs(0, 1, 0, 7, 0);
    x.stepIs(1, 0, 7, 1, -1);
  }

  private static void aRunIsNoLongerThanFirst() {
    Counted x = made("seven of four", "aaaa", "aaaaaaa", 2, 9, 0, 6, 'a', 'a', 'a');
    x.stepIs(0, 1, 0, 4, 0);
    x.stepIs(1, 0, 4, 3, -1);
    x = Counted.with("300 of four", Bytes.times(4, 1), Bytes.times(300, 1));
    x.make(3 + 8 + 75 * 2);
    x.steps(75);
    x.stepIs(0, 1, 0, 4, 0);
    x.stepIs(74, 1, 296, 4, 0);
  }

  private static void theLongestRunMayBeAllOfBothRows() {
    Counted x = Counted.with("all of 300", FULL, FULL);
    x.made(1, Bytes.patch(FULL_SIZE, FULL_SIZE, FULL, FULL, 217, 4, 0));
    x.stepIs(0, 1, 0, 300, 0);
    int[] same = Bytes.times(300, 255);
    x = Counted.with("all of 300, each the same", same, same);
    x.made(1, Bytes.patch(FULL_SIZE, FULL_SIZE, same, same, 217, 4, 0));
    x.stepIs(0, 1, 0, 300, 0);
  }

  /** "Q the least place in FIRST at which such a run of this length lies" */
  private static void ofRunsOfThisLengthTheLeastPlace() {
    made("the least of three", "abcd-abcd-abcd", "abcd", 1, 9, 0).stepIs(0, 1, 0, 4, 0);
    made("the least of two", "abc-abcd-abcd", "abcd", 1, 9, 8).stepIs(0, 1, 0, 4, 4);
    made("the least of those that meet", "-aaaaaa", "aaaa", 1, 9, 2).stepIs(0, 1, 0, 4, 1);
    made("those of five", "abcd-abcde-abcde", "abcde", 1, 11, 10).stepIs(0, 1, 0, 5, 5);
  }

  private static void aLongerRunGoesBeforeALesserPlace() {
    made("the last is longest", "abcd-abcd-abcde", "abcde", 1, 11, 20).stepIs(0, 1, 0, 5, 10);
    made("the first is longest", "abcde-abcd-abcd", "abcde", 1, 11, 0).stepIs(0, 1, 0, 5, 0);
    made("the first goes on, the last does not", "abcdeabcd", "abcd", 1, 9, 0).stepIs(0, 1, 0, 4, 0);
  }

  private static void aRunOfFourGoesBeforeALongerOneBehindIt() {
    Counted x = made("no looking on", "abcd-bcdefghij", "abcdefghij", 2, 9, 0, 13, 8);
    x.stepIs(0, 1, 0, 4, 0);
    x.stepIs(1, 1, 4, 6, 8);
  }

  private static void added(int n, int... lengths) {
    Counted x = Counted.with(n + " added", NOTHING, Bytes.mixed(n));
    int[] steps = NOTHING;
    int place = 0;
    for (int length : lengths) {
      steps = Bytes.join(steps, new int[] {2 * length}, Bytes.part(Bytes.mixed(n), place, length));
      place += length;
    }
    x.made(lengths.length, Bytes.patch(NOTHING, Bytes.mixed(n), steps));
    place = 0;
    for (int i = 0; i < lengths.length; i++) {
      x.stepIs(i, 0, place, lengths[i], -1);
      place += lengths[i];
    }
    x.noStep(lengths.length);
  }

  /** "one more byte of the STEP before, if that is an ADD of fewer than 40 bytes" */
  private static void anAddHasUpTo40Bytes() {
    added(1, 1);
    added(39, 39);
    added(40, 40);
  }

  /** "else an ADD of its own" */
  private static void the41stByteIsAnAddOfItsOwn() {
    added(41, 40, 1);
    added(79, 40, 39);
    added(80, 40, 40);
  }

  private static void an81stByteIsAThirdAdd() {
    added(81, 40, 40, 1);
    added(127, 40, 40, 40, 7);
  }

  private static void anAddDoesNotGoOnBehindACopy() {
    Counted x = made("ADD, COPY, ADD", "abcd", "1abcd2", 3, 2, '1', 9, 0, 2, '2');
    x.stepIs(0, 0, 0, 1, -1);
    x.stepIs(1, 1, 1, 4, 0);
    x.stepIs(2, 0, 5, 1, -1);
  }

  private static void aFullAddBeforeACopy() {
    for (int n = 40; n <= 41; n++) {
      int[] copied = {1, 2, 3, 4};
      int[] second = Bytes.join(Bytes.times(n, 9), copied, new int[] {8});
      Counted x = Counted.with(n + " before a COPY", copied, second);
      int[] adds = Bytes.join(new int[] {80}, Bytes.times(40, 9), n == 40 ? NOTHING : new int[] {2, 9});
      x.made(n - 37, Bytes.patch(copied, second, Bytes.join(adds, new int[] {9, 0, 2, 8})));
      x.stepIs(n - 39, 1, n, 4, 0);
      x.stepIs(n - 38, 0, n + 4, 1, -1);
    }
  }

  private static void allOfTheLargestSecondIsAdded() {
    int[] first = Bytes.times(300, 1);
    int[] second = Bytes.times(300, 2);
    int[] steps = NOTHING;
    for (int k = 0; k < 7; k++) {
      steps = Bytes.join(steps, new int[] {80}, Bytes.times(40, 2));
    }
    Counted x = Counted.with("300 added", first, second);
    x.made(8, Bytes.patch(FULL_SIZE, FULL_SIZE, first, second,
        Bytes.join(steps, new int[] {40}, Bytes.times(20, 2))));
    x.stepIs(7, 0, 280, 20, -1);
  }

  /** "its 7 lowest bits at a time, the lowest first, .. just as many as needed; 0 is one byte" */
  private static void varintsOfSizes() {
    sizeIs(0, 0);
    sizeIs(1, 1);
    sizeIs(127, 127);
    sizeIs(128, 128, 1);
    sizeIs(129, 129, 1);
    sizeIs(255, 255, 1);
    sizeIs(256, 128, 2);
    sizeIs(300, 172, 2);
  }

  private static void sizeIs(int n, int... varint) {
    int[] row = Bytes.mixed(n);
    Counted x = Counted.with("FIRST's size " + n, row, NOTHING);
    x.made(0, Bytes.patch(varint, new int[] {0}, row, NOTHING));
    x = Counted.with("SECOND's size " + n, row, row);
    int[] head = Bytes.patch(varint, varint, row, row);
    x.make(head.length + (n == 0 ? 0 : n == 1 ? 2 : 3));
    for (int i = 0; i < head.length; i++) {
      x.byteAt(2, i, head[i]);
    }
  }

  private static void varintsOfACopysLength() {
    copyOf(4, 9);
    copyOf(63, 127);
    copyOf(64, 129, 1);
    copyOf(127, 255, 1);
    copyOf(128, 129, 2);
    copyOf(299, 215, 4);
    copyOf(300, 217, 4);
  }

  private static void copyOf(int n, int... varint) {
    int[] second = Bytes.part(FULL, 0, n);
    int[] size = n < 128 ? new int[] {n} : new int[] {n % 128 + 128, n / 128};
    Counted x = Counted.with("a COPY of " + n, FULL, second);
    x.made(1, Bytes.patch(FULL_SIZE, size, FULL, second, Bytes.join(varint, new int[] {0})));
  }

  private static void varintsOfAnAddsLength() {
    for (int n : new int[] {1, 2, 39, 40}) {
      int[] row = Bytes.times(n, 3);
      Counted x = Counted.with("an ADD of " + n, NOTHING, row);
      x.made(1, Bytes.patch(NOTHING, row, Bytes.join(new int[] {2 * n}, row)));
    }
  }

  /** "0 for the first one" */
  private static void varintsOfAFirstPlace() {
    firstPlaceIs(0, 0);
    firstPlaceIs(1, 2);
    firstPlaceIs(63, 126);
    firstPlaceIs(64, 128, 1);
    firstPlaceIs(295, 206, 4);
    firstPlaceIs(296, 208, 4);
  }

  private static void firstPlaceIs(int q, int... varint) {
    int[] second = Bytes.part(FULL, q, 4);
    Counted x = Counted.with("first from " + q, FULL, second);
    x.made(1, Bytes.patch(FULL_SIZE, new int[] {4}, FULL, second, Bytes.join(new int[] {9}, varint)));
  }

  /** "z: 2 v, or - 2 v - 1 if it is below 0" */
  private static void varintsOfPlacesBehindACopy() {
    int[] from100 = {200, 1};
    nextPlaceIs(100, from100, 104, 0);
    nextPlaceIs(100, from100, 105, 2);
    nextPlaceIs(100, from100, 103, 1);
    nextPlaceIs(100, from100, 100, 7);
    nextPlaceIs(100, from100, 167, 126);
    nextPlaceIs(100, from100, 168, 128, 1);
    nextPlaceIs(100, from100, 40, 127);
    nextPlaceIs(100, from100, 39, 129, 1);
    nextPlaceIs(0, new int[] {0}, 296, 200, 4);
    nextPlaceIs(296, new int[] {208, 4}, 0, 215, 4);
    nextPlaceIs(296, new int[] {208, 4}, 296, 7);
  }

  private static void nextPlaceIs(int q, int[] varint, int next, int... nextVarint) {
    int[] second = Bytes.join(Bytes.part(FULL, q, 4), new int[] {Bytes.STRANGE}, Bytes.part(FULL, next, 4));
    Counted x = Counted.with("from " + next + " behind " + q, FULL, second);
    x.made(3, Bytes.patch(FULL_SIZE, new int[] {9}, FULL, second,
        Bytes.join(new int[] {9}, varint, new int[] {2, Bytes.STRANGE, 9}, nextVarint)));
    x.stepIs(0, 1, 0, 4, q);
    x.stepIs(2, 1, 5, 4, next);
  }

  /** "the place in FIRST behind the COPY before" */
  private static void placesAreCountedFromACopyAndNotFromAnAdd() {
    made("an ADD before the first COPY", "abcd", "12abcd", 2, 4, '1', '2', 9, 0);
    made("an ADD between", "abcdefgh", "abcd123efgh", 3, 9, 0, 6, '1', '2', '3', 9, 0);
    made("no ADD between", "abcd-efgh", "abcdefgh", 2, 9, 0, 9, 2);
  }

  /** "four bytes each, the highest first" */
  private static void theHighestByteOfACheckIsFirst() {
    Counted x = new Counted("bytes of CHECKS");
    x.give(0, 1);
    x.give(1, 177);
    // CHECKS 0xBD794EE0 and 0x00DF88E0
    x.made(1, 1, 1, 0xBD, 0x79, 0x4E, 0xE0, 0x00, 0xDF, 0x88, 0xE0, 2, 177);
    x = new Counted("zeros in CHECKS");
    x.give(0, 177, 224);
    x.give(1, 0);
    // CHECKS 0x27070000 and 0
    x.made(1, 2, 1, 0x27, 0x07, 0, 0, 0, 0, 0, 0, 2, 0);
  }

  private static void makeTakesThePlaceOfAFullPatch() {
    Counted x = Counted.with("a full PATCH before", "abcd", "");
    x.give(2, Bytes.times(900, 1));
    x.made(0, Bytes.patch(Bytes.text("abcd"), NOTHING));
    x.byteAt(2, 899, -1);
  }

  private static void makeLeavesTheTape() {
    Counted x = Counted.with("bytes on the TAPE", "abcd", "abcd");
    x.feedAll(1, 2, 3);
    x.make(12);
    x.row(0, Bytes.text("abcd"));
    x.row(1, Bytes.text("abcd"));
    x.take(0, true);
    x.row(0, 1, 2, 3);
  }

  /** "The STEPS are these, until it is made again." */
  private static void theStepsAreTheseUntilMadeAgain() {
    Counted x = Counted.with("STEPS stay", "abcdefgh", "efghabcd");
    x.make(14);
    x.give(0);
    x.give(1);
    x.give(2);
    x.apply(-1);
    x.inPlace(4);
    x.steps(2);
    x.stepIs(0, 1, 0, 4, 4, 1, 1);
    x.stepIs(1, 1, 4, 4, 0, 0, 0);
    x.size(2, 0);
    x.made(0, new int[10]);
    x.noStep(0);
  }

  private static void fewerStepsMadeAgain() {
    Counted x = Counted.with("fewer STEPS", "abcd", "1abcd2abcd3");
    x.make(10 + 2 + 2 + 2 + 2 + 2);
    x.steps(5);
    x.give(1, Bytes.text("1"));
    x.made(1, Bytes.patch(Bytes.text("abcd"), Bytes.text("1"), 2, '1'));
    x.stepIs(0, 0, 0, 1, -1, 0, -1);
    for (int i = 1; i < 5; i++) {
      x.noStep(i);
    }
  }
}

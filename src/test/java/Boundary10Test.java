/** The edges of promise 10, inPlace, and of the terms IN PLACE and ORDER. */
public final class Boundary10Test {
  private static final int[] NOTHING = {};
  private static final int[] FULL = Bytes.mixed(300);

  public static void main(String[] args) {
    nothingWasMade();
    bothRowsWereEmpty();
    secondWasEmpty();
    firstWasEmpty();
    fullRowsThatAreAlike();
    whatIsBehindSecondIsLeftOut();
    memoryGrowsBeyondFirst();
    aCopyOverItselfForth();
    aCopyOverItselfBack();
    aStepThatEndsWhereACopyBegins();
    aStepThatMeetsACopysFirstByte();
    aStepThatBeginsWhereACopyEnds();
    aStepThatMeetsACopysLastByte();
    aStepWithinWhatACopyTakes();
    aStepRoundWhatACopyTakes();
    anAddBlocksNothing();
    aCopyThatIsDoneBlocksNothing();
    theLeastNumberIsNextEachTime();
    noneIsPutAsideWhileOneIsFree();
    theFewestBytesArePutAside();
    ofEqualOnesTheLeastNumber();
    fewerBytesGoBeforeALesserNumber();
    anAddIsNeverPutAside();
    onlyAsManyAsNeedBeArePutAside();
    oneBehindTheOtherIsPutAside();
    whatIsPutAsideWaitsForItsPlace();
    whatIsPutAsideIsKeptAsItWas();
    oneThatIsPutAsideBlocksNothing();
    halfOfFullRowsIsPutAside();
    manyPairsThatCross();
    doneAgain();
    firstAsItWas();
    secondAsItWas();
    otherRowsStay();
    madeAgainBeforeInPlace();
    Due.end();
  }

  private static Counted done(String test, int[] first, int[] second, int bytesAside) {
    Counted x = Counted.with(test, first, second);
    x.make(sizeOfPatch(first, second));
    x.inPlace(bytesAside);
    x.row(4, second);
    return x;
  }

  private static Counted done(String test, String first, String second, int bytesAside) {
    return done(test, Bytes.text(first), Bytes.text(second), bytesAside);
  }

  private static int sizeOfPatch(int[] first, int[] second) {
    Model m = new Model();
    m.give(0, first);
    m.give(1, second);
    return m.make();
  }

  private static void nothingWasMade() {
    Counted x = Counted.with("nothing made", "abcd", "efgh");
    x.inPlace(0);
    x.row(4);
  }

  private static void bothRowsWereEmpty() {
    done("both empty", "", "", 0).steps(0);
  }

  private static void secondWasEmpty() {
    done("SECOND empty", "abcd", "", 0).steps(0);
    done("SECOND empty, FIRST full", FULL, NOTHING, 0).steps(0);
  }

  private static void firstWasEmpty() {
    done("FIRST empty", "", "a", 0).order(0);
    done("FIRST empty, SECOND full", NOTHING, FULL, 0).order(0, 1, 2, 3, 4, 5, 6, 7, -1);
  }

  private static void fullRowsThatAreAlike() {
    Counted x = done("alike", FULL, FULL, 0);
    x.steps(1);
    x.stepIs(0, 1, 0, 300, 0, 0, 0);
  }

  /** "MEMORY has as many bytes as SECOND then (those behind are left out)" */
  private static void whatIsBehindSecondIsLeftOut() {
    done("one byte of 300", FULL, new int[] {Bytes.STRANGE}, 0);
    done("one fewer", FULL, Bytes.part(FULL, 0, 299), 0).byteAt(4, 299, -1);
    done("the end alone", FULL, Bytes.part(FULL, 296, 4), 0).byteAt(4, 4, -1);
  }

  private static void memoryGrowsBeyondFirst() {
    done("one more", Bytes.part(FULL, 0, 299), FULL, 0);
    done("300 of four", new int[] {1, 1, 1, 1}, Bytes.times(300, 1), 0);
    done("one byte to 300", new int[] {1}, FULL, 0);
    done("300 behind one", Bytes.part(FULL, 1, 299), FULL, 0).order(1, 0);
  }

  /** "a COPY takes them out of MEMORY, from Q on, all before it writes"; "no other COPY" */
  private static void aCopyOverItselfForth() {
    for (int by : new int[] {1, 2, 100, 149, 150, 295, 296}) {
      int[] second = Bytes.join(Bytes.times(by, Bytes.STRANGE), Bytes.part(FULL, 0, 300 - by));
      Counted x = done("forth by " + by, FULL, second, 0);
      int adds = (by + 39) / 40;
      x.step(adds, 0, 1);
      x.step(adds, 4, 0);
    }
  }

  private static void aCopyOverItselfBack() {
    for (int by : new int[] {1, 2, 100, 149, 150, 295, 296}) {
      Counted x = done("back by " + by, FULL, Bytes.part(FULL, by, 300 - by), 0);
      x.stepIs(0, 1, 0, 300 - by, by, 0, 0);
    }
  }

  /** "whose bytes lie where no other COPY .. takes any" */
  private static void aStepThatEndsWhereACopyBegins() {
    // ADD [0, 4); COPY of 4 .. 7, which begins where the ADD ends
    done("ends before", "abcdefgh", "1234efgh", 0).order(0, 1);
  }

  private static void aStepThatMeetsACopysFirstByte() {
    // ADD [0, 5); COPY of 4 .. 7
    done("meets the first", "abcdefgh", "12345efgh", 0).order(1, 0);
  }

  private static void aStepThatBeginsWhereACopyEnds() {
    // COPY of 0 .. 3 to where it lies; ADD [4, 8); COPY of 0 .. 3
    done("begins behind", "abcdefgh", "abcd1234abcd", 0).order(2, 0, 1);
  }

  private static void aStepThatMeetsACopysLastByte() {
    // COPY of 0 .. 3 to where it lies; ADD [4, 8); COPY of 0 .. 4
    done("meets the last", "abcdefgh", "abcd1234abcde", 0).order(1, 2, 0);
  }

  private static void aStepWithinWhatACopyTakes() {
    // COPY of 8 .. 11 to [0, 4), put aside; ADD [4, 5); COPY of 0 .. 7 to [5, 13)
    done("within", "abcdefghijkl", "ijkl1abcdefgh", 4).order(1, 2, 0);
  }

  private static void aStepRoundWhatACopyTakes() {
    // ADD [0, 12); COPY of 4 .. 7
    done("round", "abcdefghijkl", "123456789012efgh", 0).order(1, 0);
  }

  private static void anAddBlocksNothing() {
    // COPY of 4 .. 7 to [0, 4); ADD [4, 8), over what the COPY takes, which is done by then
    done("an ADD behind", "abcdefgh", "efgh1234", 0).order(0, 1);
    done("ADDS alone", "abcdefgh", "12345678", 0).order(0);
  }

  /** "no other COPY that is left" */
  private static void aCopyThatIsDoneBlocksNothing() {
    // ADD [0, 4) waits for both COPIES of 0 .. 3.
    done("two before one", "abcdefgh", "1234abcd5abcd", 0).order(3, 0, 1, 2);
  }

  /** "again and again, of the STEPS that are left, that of the least number is next" */
  private static void theLeastNumberIsNextEachTime() {
    // ADD 0 waits for COPY 1 alone, and goes before COPY 3, which was free as well.
    done("back to the least", "abcdefghzzijkl", "1234abcd56ijkl", 0).order(1, 0, 2, 3);
    done("all are free", "abcdefghijkl", "abcd1efgh2", 0).order(0, 2, 1, 3);
  }

  /** "if there is none" */
  private static void noneIsPutAsideWhileOneIsFree() {
    // COPIES 0 and 1 cross; ADD 2 behind FIRST is done before one of them is put aside.
    Counted x = done("a free one first", "abcdefgh", "efghabcd1", 4);
    x.order(2, 1, 0);
    x.aside(1, 0, 0);
  }

  /** "with the fewest bytes" */
  private static void theFewestBytesArePutAside() {
    Counted x = done("the first has fewest", "abcdefghi", "fghiabcde", 4);
    x.aside(1, 0);
    x.order(1, 0);
    x = done("the last has fewest", "abcdefghi", "efghiabcd", 4);
    x.aside(0, 1);
    x.order(0, 1);
  }

  /** "of equal ones that of the least number" */
  private static void ofEqualOnesTheLeastNumber() {
    Counted x = done("two equal ones", "abcdefgh", "efghabcd", 4);
    x.aside(1, 0);
    x.order(1, 0);
    // COPY 1 lies where it is due and is done first; 0 and 2 cross.
    x = done("two of three", "abcdefghijkl", "ijklefghabcd", 4);
    x.aside(1, 0, 0);
    x.order(2, 0, 1);
  }

  private static void fewerBytesGoBeforeALesserNumber() {
    // COPIES of 5, 5 and 4 bytes: 2 goes aside for its bytes, then 0 for its number.
    Counted x = done("the last has fewest", "abcdEFGHIjklmn", "jklmnEFGHIabcd", 9);
    x.aside(1, 0, 1);
    x.order(1, 0, 2);
  }

  private static void anAddIsNeverPutAside() {
    // ADD 0 has the fewest bytes and waits; COPY 1 and COPY 2 cross.
    Counted x = done("an ADD of one", "abcdefgh", "1efghabcd", 4);
    x.aside(0, 1, 0);
    x.order(1, 2, 0);
  }

  private static void onlyAsManyAsNeedBeArePutAside() {
    // Four in a ring: when one is put aside, the others are free in turn.
    Counted x = done("a ring of four", "abcdEFGHijklMNOP", "EFGHMNOPabcdijkl", 4);
    x.aside(1, 0, 0, 0);
    x.order(3, 0, 2, 1);
  }

  /** "how many bytes were PUT ASIDE in all" */
  private static void oneBehindTheOtherIsPutAside() {
    // COPY 0 writes over what 1 and 2 take, and these over what it takes: both go aside at once.
    Counted x = done("two aside", "abcdefgh0123456789", "0123456789efghabcd", 8);
    x.stepIs(0, 1, 0, 10, 8, 0, 0);
    x.stepIs(1, 1, 10, 4, 4, 1, 1);
    x.stepIs(2, 1, 14, 4, 0, 1, 2);
  }

  private static void whatIsPutAsideWaitsForItsPlace() {
    Counted x = done("aside, and waits", "abcdefgh", "efghabcd", 4);
    x.stepIs(0, 1, 0, 4, 4, 1, 1);
  }

  /** "its bytes are kept, as they are now" */
  private static void whatIsPutAsideIsKeptAsItWas() {
    // COPY 0's bytes are written over by COPY 1 before COPY 0 is done.
    done("kept", "aaaabbbb", "bbbbaaaa", 4).row(4, Bytes.text("bbbbaaaa"));
    int[] first = Bytes.part(FULL, 0, 8);
    int[] second = Bytes.join(Bytes.part(FULL, 4, 4), Bytes.part(FULL, 0, 4));
    done("kept, of small bytes", first, second, 4);
  }

  /** "and it takes none out of MEMORY" */
  private static void oneThatIsPutAsideBlocksNothing() {
    // STEP 1, an ADD, lies where COPY 0 takes: it is free as soon as that is put aside.
    Counted x = done("an ADD over it", "abcdefgh", "efgh1abcd", 4);
    x.aside(1, 0, 0);
    x.order(2, 0, 1);
  }

  private static void halfOfFullRowsIsPutAside() {
    int[] turned = Bytes.join(Bytes.part(FULL, 150, 150), Bytes.part(FULL, 0, 150));
    Counted x = done("two halves", FULL, turned, 150);
    x.aside(1, 0);
    x.order(1, 0);
    turned = Bytes.join(Bytes.part(FULL, 149, 151), Bytes.part(FULL, 0, 149));
    x = done("151 and 149", FULL, turned, 149);
    x.aside(0, 1);
    x.order(0, 1);
  }

  private static void manyPairsThatCross() {
    int[] second = new int[300];
    for (int k = 0; k < 75; k++) {
      System.arraycopy(FULL, 296 - 4 * k, second, 4 * k, 4);
    }
    Counted x = done("75 backwards", FULL, second, 37 * 4);
    x.steps(75);
    // The one in the middle lies where it is due, and goes first; of each pair the first is aside.
    x.stepIs(37, 1, 148, 4, 148, 0, 0);
    for (int k = 0; k < 37; k++) {
      x.step(k, 4, 1);
      x.step(74 - k, 4, 0);
    }
    x.step(74, 5, 1);
    x.step(0, 5, 2);
    x.step(73, 5, 3);
    x.step(1, 5, 4);
  }

  /** MEMORY has FIRST at its beginning each time, and not what the last time left. */
  private static void doneAgain() {
    Counted x = done("again", "abcdefgh", "1efghabcd2", 4);
    for (int k = 0; k < 3; k++) {
      x.inPlace(4);
      x.row(4, Bytes.text("1efghabcd2"));
    }
  }

  /** "on FIRST as it was when they were made" */
  private static void firstAsItWas() {
    for (int n : new int[] {0, 1, 8, 300}) {
      Counted x = Counted.with("another FIRST of " + n, "abcdefgh", "efghabcd");
      x.make(14);
      x.give(0, Bytes.times(n, 7));
      x.inPlace(4);
      x.row(4, Bytes.text("efghabcd"));
      x.row(0, Bytes.times(n, 7));
    }
  }

  /** The STEPS are those of the SECOND that they were made for. */
  private static void secondAsItWas() {
    for (int n : new int[] {0, 1, 9, 300}) {
      Counted x = Counted.with("another SECOND of " + n, "abcdefgh", "efgh1abcd");
      x.make(16);
      x.give(1, Bytes.times(n, 7));
      x.inPlace(4);
      x.row(4, Bytes.text("efgh1abcd"));
      x.row(1, Bytes.times(n, 7));
    }
  }

  private static void otherRowsStay() {
    Counted x = Counted.with("other rows", "abcdefgh", "efgh");
    x.make(12);
    x.apply(4);
    x.give(2, 1, 2, 3);
    x.feed(9, 1, true);
    x.inPlace(0);
    x.row(0, Bytes.text("abcdefgh"));
    x.row(1, Bytes.text("efgh"));
    x.row(2, 1, 2, 3);
    x.row(3, Bytes.text("efgh"));
    x.take(0, true);
    x.row(0, 9);
  }

  private static void madeAgainBeforeInPlace() {
    Counted x = done("made again", "abcdefgh", "efghabcd", 4);
    x.give(1, Bytes.text("abcd"));
    x.make(12);
    x.row(4, Bytes.text("efghabcd"));
    x.inPlace(0);
    x.row(4, Bytes.text("abcd"));
    x.give(1);
    x.make(10);
    x.inPlace(0);
    x.row(4);
  }
}

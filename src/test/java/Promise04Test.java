/** make: STEPS and PATCH are made out of FIRST and SECOND. */
public final class Promise04Test {
  public static void main(String[] args) {
    emptyRows();
    aRunOfFourIsCopiedAndOneOfThreeIsNot();
    theLongestRunIsTakenAndOfThoseTheFirst();
    anAddHasAtMost40Bytes();
    placesAreToldFromBehindTheCopyBefore();
    varintsOfTwoBytes();
    theLargestRows();
    theStepsStayUntilMadeAgain();
    makeReplacesPatch();
    Due.end();
  }

  /** The head of PATCH with sizes of one byte and the CHECKS that the class tells. */
  private static int[] head(DeltaMaker x) {
    return Bytes.join(new int[] {x.size(0), x.size(1)}, Bytes.word(x.check(0)), Bytes.word(x.check(1)));
  }

  private static void made(DeltaMaker x, int steps, int[] patch) {
    Due.is("make()", x.make(), patch.length);
    Due.is("steps()", x.steps(), steps);
    Due.row(x, 2, patch);
  }

  private static void emptyRows() {
    made(new DeltaMaker(), 0, new int[10]);
    DeltaMaker x = Due.with("abcd", "");
    made(x, 0, head(x));
    x = Due.with("", "abcd");
    made(x, 1, Bytes.join(head(x), new int[] {8}, Bytes.text("abcd")));
    Due.step(x, 0, 0, 0, 4, -1);
  }

  private static void aRunOfFourIsCopiedAndOneOfThreeIsNot() {
    DeltaMaker x = Due.with("abcd", "abcd");
    made(x, 1, Bytes.join(head(x), new int[] {9, 0}));
    Due.step(x, 0, 1, 0, 4, 0);
    x = Due.with("abcx", "abcd");
    made(x, 1, Bytes.join(head(x), new int[] {8}, Bytes.text("abcd")));
    Due.step(x, 0, 0, 0, 4, -1);
    x = Due.with("zabcd", "abcabcd");
    made(x, 2, Bytes.join(head(x), new int[] {6}, Bytes.text("abc"), new int[] {9, 2}));
    Due.step(x, 0, 0, 0, 3, -1);
    Due.step(x, 1, 1, 3, 4, 1);
  }

  private static void theLongestRunIsTakenAndOfThoseTheFirst() {
    DeltaMaker x = Due.with("abcd-abcdef-abcdef", "abcdefg");
    made(x, 2, Bytes.join(head(x), new int[] {13, 10, 2, 'g'}));
    Due.step(x, 0, 1, 0, 6, 5);
    Due.step(x, 1, 0, 6, 1, -1);
    x = Due.with("aaaaaa", "aaaaaaaaaa");
    made(x, 2, Bytes.join(head(x), new int[] {13, 0, 9, 11}));
    Due.step(x, 0, 1, 0, 6, 0);
    Due.step(x, 1, 1, 6, 4, 0);
  }

  private static void anAddHasAtMost40Bytes() {
    DeltaMaker x = Due.with(new int[0], Bytes.times(40, 7));
    made(x, 1, Bytes.join(head(x), new int[] {80}, Bytes.times(40, 7)));
    x = Due.with(new int[0], Bytes.times(41, 7));
    made(x, 2, Bytes.join(head(x), new int[] {80}, Bytes.times(40, 7), new int[] {2, 7}));
    Due.step(x, 0, 0, 0, 40, -1);
    Due.step(x, 1, 0, 40, 1, -1);
    x = Due.with("abcd", "xyabcdz");
    made(x, 3, Bytes.join(head(x), new int[] {4, 'x', 'y', 9, 0, 2, 'z'}));
    Due.step(x, 0, 0, 0, 2, -1);
    Due.step(x, 1, 1, 2, 4, 0);
    Due.step(x, 2, 0, 6, 1, -1);
  }

  private static void placesAreToldFromBehindTheCopyBefore() {
    DeltaMaker x = Due.with("abcdefghijkl", "ijkl#abcd#efgh");
    // from 8: + 8; from 0 behind 12: - 12; from 4 behind 4: 0
    made(x, 5, Bytes.join(head(x), new int[] {9, 16, 2, '#', 9, 23, 2, '#', 9, 0}));
  }

  private static void varintsOfTwoBytes() {
    int[] row = new int[200];
    for (int i = 0; i < row.length; i++) {
      row[i] = i;
    }
    int[] swapped = Bytes.join(java.util.Arrays.copyOfRange(row, 64, 200), java.util.Arrays.copyOf(row, 64));
    DeltaMaker x = Due.with(row, swapped);
    int[] due = Bytes.join(new int[] {200, 1, 200, 1}, Bytes.word(x.check(0)), Bytes.word(x.check(1)),
        // 2 * 136 + 1 = 273, 2 * 64 = 128; 2 * 64 + 1 = 129, 2 * 200 - 1 = 399
        new int[] {145, 2, 128, 1, 129, 1, 143, 3});
    made(x, 2, due);

    // The largest number of one byte, and the least one of two.
    x = Due.with(Bytes.times(127, 1), new int[0]);
    made(x, 0, Bytes.join(new int[] {127, 0}, Bytes.word(x.check(0)), new int[4]));
    x = Due.with(Bytes.times(128, 1), new int[0]);
    made(x, 0, Bytes.join(new int[] {128, 1, 0}, Bytes.word(x.check(0)), new int[4]));
  }

  private static void theLargestRows() {
    DeltaMaker x = Due.with(Bytes.times(300, 1), Bytes.times(300, 2));
    int[] due = Bytes.join(new int[] {172, 2, 172, 2}, Bytes.word(x.check(0)), Bytes.word(x.check(1)));
    for (int k = 0; k < 7; k++) {
      due = Bytes.join(due, new int[] {80}, Bytes.times(40, 2));
    }
    made(x, 8, Bytes.join(due, new int[] {40}, Bytes.times(20, 2)));
    x = Due.with(Bytes.times(300, 1), Bytes.times(300, 1));
    made(x, 1, Bytes.join(new int[] {172, 2, 172, 2}, Bytes.word(x.check(0)), Bytes.word(x.check(1)), new int[] {217, 4, 0}));
    Due.step(x, 0, 1, 0, 300, 0);
    manySteps();
  }

  /** COPIES of four with one strange byte between: as many STEPS as there can be. */
  private static void manySteps() {
    int[] second = new int[300];
    for (int i = 0; i < 300; i++) {
      second[i] = i % 5 == 4 ? 9 : i % 5;
    }
    DeltaMaker x = Due.with(new int[] {0, 1, 2, 3}, second);
    Due.is("make()", x.make(), 3 + 8 + 60 * 4);
    Due.is("steps()", x.steps(), 120);
    for (int k = 0; k < 60; k++) {
      Due.step(x, 2 * k, 1, 5 * k, 4, 0);
      Due.step(x, 2 * k + 1, 0, 5 * k + 4, 1, -1);
    }
    Due.is("apply()", x.apply(), 300);
    Due.row(x, 3, second);
  }

  private static void theStepsStayUntilMadeAgain() {
    DeltaMaker x = Due.with("abcdefgh", "efghabcd");
    x.make();
    Due.take(x, 0, Bytes.text("other"));
    Due.take(x, 1, Bytes.text("another"));
    Due.take(x, 2, 1, 2, 3);
    Due.is("steps()", x.steps(), 2);
    Due.step(x, 0, 1, 0, 4, 4);
    Due.step(x, 1, 1, 4, 4, 0);
    made(x, 2, Bytes.join(head(x), new int[] {4, 'a', 'n', 11, 0}));
    Due.step(x, 0, 0, 0, 2, -1);
    Due.step(x, 1, 1, 2, 5, 0);
    Due.is("step(2, 0)", x.step(2, 0), -1);
  }

  private static void makeReplacesPatch() {
    DeltaMaker x = Due.with("abcd", "abcd");
    Due.take(x, 2, Bytes.times(900, 1));
    made(x, 1, Bytes.join(head(x), new int[] {9, 0}));
    made(x, 1, Bytes.join(head(x), new int[] {9, 0}));
    Due.row(x, 0, Bytes.text("abcd"));
    Due.row(x, 1, Bytes.text("abcd"));
  }
}

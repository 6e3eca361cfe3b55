/** inPlace: the STEPS are done over FIRST itself, as it was when they were made. */
public final class Promise10Test {
  public static void main(String[] args) {
    nothingInTheWay();
    aCopyMayOverlapItself();
    twoThatCross();
    theFewestBytesArePutAside();
    ofEqualOnesTheLeastNumberIsPutAside();
    anAddWaitsForACopy();
    theLeastNumberGoesFirst();
    onlyTheStepsThatAreLeftBlock();
    longerAndShorterThanFirst();
    theRowsAreThoseOfMake();
    theLargestRows();
    Due.end();
  }

  private static DeltaMaker done(String first, String second, int aside) {
    DeltaMaker x = Due.with(first, second);
    x.make();
    Due.is("inPlace() of " + first + " to " + second, x.inPlace(), aside);
    Due.row(x, 4, Bytes.text(second));
    return x;
  }

  private static void nothingInTheWay() {
    done("", "", 0);
    done("abcd", "", 0);
    Due.placed(done("", "abcd", 0), 0, 0, 0);
    Due.placed(done("abcdef", "abcdef", 0), 0, 0, 0);
  }

  private static void aCopyMayOverlapItself() {
    Due.placed(done("xxabcdefgh", "abcdefgh", 0), 0, 0, 0);
    DeltaMaker x = done("abcdefgh", "xxabcdefgh", 0);
    Due.placed(x, 0, 0, 1);
    Due.placed(x, 1, 0, 0);
  }

  private static void twoThatCross() {
    DeltaMaker x = done("abcdefgh", "efghabcd", 4);
    Due.placed(x, 0, 1, 1);
    Due.placed(x, 1, 0, 0);
  }

  private static void theFewestBytesArePutAside() {
    DeltaMaker x = done("abcdefghij", "efghijabcd", 4);
    Due.placed(x, 0, 0, 0);
    Due.placed(x, 1, 1, 1);
    x = done("abcdefghij", "ghijabcdef", 4);
    Due.placed(x, 0, 1, 1);
    Due.placed(x, 1, 0, 0);
  }

  private static void ofEqualOnesTheLeastNumberIsPutAside() {
    // Four in a ring: the first is put aside, and then one after the other is free.
    DeltaMaker x = done("abcdEFGHijklMNOP", "EFGHMNOPabcdijkl", 4);
    Due.placed(x, 0, 1, 3);
    Due.placed(x, 1, 0, 0);
    Due.placed(x, 2, 0, 2);
    Due.placed(x, 3, 0, 1);
  }

  private static void anAddWaitsForACopy() {
    DeltaMaker x = done("abcdefgh", "1234abcd", 0);
    Due.placed(x, 0, 0, 1);
    Due.placed(x, 1, 0, 0);
  }

  private static void theLeastNumberGoesFirst() {
    // STEPS: ADD 1234 over what COPY abcd takes; COPY abcd; ADD 56; COPY ijkl where it lies.
    DeltaMaker x = done("abcdefghzzijkl", "1234abcd56ijkl", 0);
    Due.placed(x, 0, 0, 1);
    Due.placed(x, 1, 0, 0);
    Due.placed(x, 2, 0, 2);
    Due.placed(x, 3, 0, 3);
  }

  private static void onlyTheStepsThatAreLeftBlock() {
    // Both COPIES of abcd are in the way of the ADD: it goes when the later of them is done.
    DeltaMaker x = done("abcdefgh", "1234abcd5abcd", 0);
    Due.placed(x, 0, 0, 3);
    Due.placed(x, 1, 0, 0);
    Due.placed(x, 2, 0, 1);
    Due.placed(x, 3, 0, 2);
  }

  private static void longerAndShorterThanFirst() {
    done("abcdefghijklmnop", "mnop", 0);
    done("abcdefghijklmnop", "xy", 0);
    done("abcd", "abcdabcdabcd", 0);
    DeltaMaker x = done("abcdefgh", "efgh", 0);
    Due.is("byteAt(4, 4)", x.byteAt(4, 4), -1);
    Due.is("byteAt(4, 7)", x.byteAt(4, 7), -1);
  }

  private static void theRowsAreThoseOfMake() {
    DeltaMaker x = Due.with("abcdefgh", "efgh#abcd");
    x.make();
    Due.take(x, 0, Bytes.text("x"));
    Due.take(x, 1, Bytes.text("something else, and longer"));
    Due.take(x, 2, 1);
    Due.is("inPlace()", x.inPlace(), 4);
    Due.row(x, 4, Bytes.text("efgh#abcd"));
    Due.is("inPlace() again", x.inPlace(), 4);
    Due.row(x, 4, Bytes.text("efgh#abcd"));
    Due.row(x, 0, 'x');
    x.make();
    Due.row(x, 4, Bytes.text("efgh#abcd"));
    Due.is("inPlace()", x.inPlace(), 0);
    Due.row(x, 4, Bytes.text("something else, and longer"));
  }

  private static void theLargestRows() {
    int[] up = new int[300];
    for (int i = 0; i < 300; i++) {
      up[i] = i * 7 % 256 ^ i / 256;
    }
    int[] turned = Bytes.join(java.util.Arrays.copyOfRange(up, 150, 300), java.util.Arrays.copyOf(up, 150));
    DeltaMaker x = Due.with(up, turned);
    x.make();
    Due.is("inPlace()", x.inPlace(), 150);
    Due.row(x, 4, turned);

    int[] backwards = new int[300];
    for (int k = 0; k < 75; k++) {
      System.arraycopy(up, 296 - 4 * k, backwards, 4 * k, 4);
    }
    x = Due.with(up, backwards);
    x.make();
    Due.is("steps()", x.steps(), 75);
    // 37 pairs that cross, one of each put aside; the one in the middle lies where it is due.
    Due.is("inPlace()", x.inPlace(), 37 * 4);
    Due.row(x, 4, backwards);
    Due.placed(x, 37, 0, 0);
  }
}

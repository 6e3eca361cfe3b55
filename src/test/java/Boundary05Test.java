/** The edges of promise 5, byteAt. */
public final class Boundary05Test {
  private static final int NONE = -1;

  public static void main(String[] args) {
    theFirstAndTheLastByteOfFullRows();
    thereIsNoneBehindTheLast();
    thereIsNoneBeforeTheFirst();
    strangePlacesInFullRows();
    thereIsNoneInAnEmptyRow();
    thereIsNoneForAnotherWhat();
    theLeastAndTheGreatestByte();
    thereIsNoneWhereALongerRowWas();
    bytesOnTheTapeAreInNoRow();
    thereIsNoneInOutputWhenApplyFailed();
    thereIsNoneInMemoryBehindSecond();
    Due.end();
  }

  /** All five rows with as many bytes as they can have, each its number last. */
  private static Counted full(String test) {
    int[] first = Bytes.join(new int[] {10}, Bytes.times(298, 1), new int[] {20});
    int[] second = Bytes.join(new int[] {11}, Bytes.times(298, 1), new int[] {21});
    Counted x = Counted.with(test, first, second);
    x.make(12 + 2 + 3 + 2);
    x.apply(300);
    x.inPlace(0);
    x.give(2, Bytes.join(new int[] {12}, Bytes.times(898, 1), new int[] {22}));
    return x;
  }

  private static void theFirstAndTheLastByteOfFullRows() {
    Counted x = full("full rows");
    x.byteAt(0, 0, 10);
    x.byteAt(0, 299, 20);
    x.byteAt(1, 0, 11);
    x.byteAt(1, 299, 21);
    x.byteAt(2, 0, 12);
    x.byteAt(2, 899, 22);
    x.byteAt(3, 0, 11);
    x.byteAt(3, 299, 21);
    x.byteAt(4, 0, 11);
    x.byteAt(4, 299, 21);
  }

  /** "NONE if there is none such" */
  private static void thereIsNoneBehindTheLast() {
    Counted x = full("behind the last");
    for (int what = 0; what <= 4; what++) {
      int size = what == 2 ? 900 : 300;
      x.byteAt(what, size - 2, 1);
      x.byteAt(what, size, NONE);
      x.byteAt(what, size + 1, NONE);
      x.byteAt(what, 900, NONE);
    }
  }

  private static void thereIsNoneBeforeTheFirst() {
    Counted x = full("before the first");
    for (int what = 0; what <= 4; what++) {
      x.byteAt(what, 1, 1);
      x.byteAt(what, -1, NONE);
      x.byteAt(what, -300, NONE);
    }
  }

  private static void strangePlacesInFullRows() {
    Counted x = full("strange places");
    for (int what = 0; what <= 4; what++) {
      for (int i : new int[] {Integer.MIN_VALUE, Integer.MIN_VALUE + 1, -65536, -256, 65536, 1 << 30, Integer.MAX_VALUE}) {
        x.byteAt(what, i, NONE);
      }
    }
  }

  private static void thereIsNoneInAnEmptyRow() {
    Counted x = new Counted("empty rows");
    for (int what = 0; what <= 4; what++) {
      for (int i = -1; i <= 1; i++) {
        x.byteAt(what, i, NONE);
      }
    }
  }

  /** "or for another what" */
  private static void thereIsNoneForAnotherWhat() {
    Counted x = full("another what");
    for (int i : new int[] {-1, 0, 299, 300}) {
      for (int what : Counted.STRANGE) {
        x.byteAt(what, i, NONE);
      }
      x.byteAt(5, i, NONE);
      x.byteAt(6, i, NONE);
    }
  }

  /** "bytes (0 .. 255)": 255 is not NONE, nor is 0. */
  private static void theLeastAndTheGreatestByte() {
    int[] row = {0, 255, 128, 127, 0, 255};
    Counted x = Counted.with("0 and 255", row, row);
    x.give(2, row);
    for (int what = 0; what <= 2; what++) {
      for (int i = 0; i < row.length; i++) {
        x.byteAt(what, i, row[i]);
      }
    }
    x.make(12);
    x.apply(6);
    x.inPlace(0);
    for (int what = 3; what <= 4; what++) {
      for (int i = 0; i < row.length; i++) {
        x.byteAt(what, i, row[i]);
      }
    }
  }

  private static void thereIsNoneWhereALongerRowWas() {
    Counted x = full("where a longer row was");
    for (int what = 0; what <= 2; what++) {
      x.give(what, 7);
      x.byteAt(what, 0, 7);
      x.byteAt(what, 1, NONE);
      x.byteAt(what, 299, NONE);
      x.take(what, true);
      x.byteAt(what, 0, NONE);
    }
  }

  private static void bytesOnTheTapeAreInNoRow() {
    Counted x = new Counted("on the TAPE");
    x.feedAll(1, 2, 3);
    for (int what = 0; what <= 4; what++) {
      x.byteAt(what, 0, NONE);
    }
  }

  private static void thereIsNoneInOutputWhenApplyFailed() {
    Counted x = full("apply failed");
    x.byteAt(3, 0, 11);
    x.apply(-2);
    x.byteAt(3, 0, NONE);
    x.byteAt(3, 299, NONE);
  }

  private static void thereIsNoneInMemoryBehindSecond() {
    Counted x = Counted.with("behind SECOND", "abcdefgh", "efgh1");
    x.make(10 + 2 + 2);
    x.inPlace(0);
    x.byteAt(4, 4, '1');
    x.byteAt(4, 5, NONE);
    x.byteAt(4, 7, NONE);
  }
}

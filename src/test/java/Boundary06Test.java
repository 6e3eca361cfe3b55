/** The edges of promise 6, size. */
public final class Boundary06Test {
  private static final int NONE = -1;

  public static void main(String[] args) {
    emptyRows();
    fullRows();
    rowsThatAreEmptyAgain();
    refusedCallsChangeNoSize();
    anotherWhat();
    anotherWhatOfEmptyRows();
    anOutputOfNoBytes();
    outputIsEmptyWhenApplyFailed();
    memoryIsAsLongAsSecondWas();
    Due.end();
  }

  private static void sizes(Counted x, int... due) {
    for (int what = 0; what < due.length; what++) {
      x.size(what, due[what]);
    }
  }

  private static void emptyRows() {
    sizes(new Counted("new rows"), 0, 0, 0, 0, 0);
  }

  private static Counted full(String test) {
    Counted x = Counted.with(test, Bytes.times(300, 1), Bytes.times(300, 1));
    x.make(15);
    x.apply(300);
    x.inPlace(0);
    x.give(2, Bytes.times(900, 1));
    return x;
  }

  private static void fullRows() {
    sizes(full("full rows"), 300, 300, 900, 300, 300);
  }

  private static void rowsThatAreEmptyAgain() {
    Counted x = full("empty again");
    for (int what = 0; what <= 2; what++) {
      x.take(what, true);
    }
    sizes(x, 0, 0, 0, 300, 300);
    x.make(10);
    sizes(x, 0, 0, 10, 300, 300);
    x.apply(0);
    sizes(x, 0, 0, 10, 0, 300);
    x.inPlace(0);
    sizes(x, 0, 0, 10, 0, 0);
  }

  private static void refusedCallsChangeNoSize() {
    Counted x = full("refused calls");
    x.feedAll(Bytes.times(301, 1));
    x.take(0, false);
    x.take(1, false);
    x.take(3, false);
    x.feed(1, 9, false);
    sizes(x, 300, 300, 900, 300, 300);
  }

  /** "NONE for another what" */
  private static void anotherWhat() {
    Counted x = full("another what");
    for (int what : Counted.STRANGE) {
      x.size(what, NONE);
    }
    x.size(5, NONE);
    x.size(6, NONE);
  }

  private static void anotherWhatOfEmptyRows() {
    Counted x = new Counted("another what of nothing");
    x.size(-1, NONE);
    x.size(5, NONE);
  }

  private static void anOutputOfNoBytes() {
    Counted x = Counted.with("no bytes come", "abcd", "");
    x.make(10);
    x.apply(0);
    x.inPlace(0);
    sizes(x, 4, 0, 10, 0, 0);
  }

  private static void outputIsEmptyWhenApplyFailed() {
    Counted x = Counted.with("apply failed", "abcd", "abcd");
    x.make(12);
    x.apply(4);
    x.size(3, 4);
    x.take(2, true);
    x.apply(-1);
    sizes(x, 4, 4, 0, 0, 0);
  }

  private static void memoryIsAsLongAsSecondWas() {
    Counted x = Counted.with("shorter", Bytes.times(300, 1), new int[] {2});
    x.make(11 + 2);
    x.inPlace(0);
    x.size(4, 1);
    x = Counted.with("longer", new int[] {2}, Bytes.times(300, 1));
    x.make(11 + 308);
    x.inPlace(0);
    x.size(4, 300);
  }
}

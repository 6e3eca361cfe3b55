/** take: TAPE becomes FIRST, SECOND or PATCH, and is empty then. */
public final class Promise03Test {
  public static void main(String[] args) {
    theTapeBecomesTheNamedRow();
    anEmptyTapeMakesAnEmptyRow();
    tooManyBytesAreRefused();
    otherNamesAreRefused();
    otherRowsStay();
    Due.end();
  }

  private static void theTapeBecomesTheNamedRow() {
    for (int what = 0; what <= 2; what++) {
      DeltaMaker x = new DeltaMaker();
      Due.take(x, what, 1, 2, 3, 4, 5);
      for (int other = 0; other <= 4; other++) {
        Due.row(x, other, other == what ? new int[] {1, 2, 3, 4, 5} : new int[0]);
      }
      Due.take(x, what, 9);
      Due.row(x, what, 9);
    }
  }

  private static void anEmptyTapeMakesAnEmptyRow() {
    for (int what = 0; what <= 2; what++) {
      DeltaMaker x = new DeltaMaker();
      Due.take(x, what, 1, 2);
      Due.is("take(" + what + ")", x.take(what), true);
      Due.row(x, what);
    }
  }

  private static void tooManyBytesAreRefused() {
    DeltaMaker x = new DeltaMaker();
    Due.take(x, 0, Bytes.times(300, 1));
    Due.take(x, 1, Bytes.times(300, 2));
    Due.feed(x, Bytes.times(301, 3));
    Due.is("take(0) of 301", x.take(0), false);
    Due.is("take(1) of 301", x.take(1), false);
    Due.row(x, 0, Bytes.times(300, 1));
    Due.row(x, 1, Bytes.times(300, 2));
    Due.is("take(2) of 301", x.take(2), true);
    Due.row(x, 2, Bytes.times(301, 3));
    Due.take(x, 2, Bytes.times(900, 4));
    Due.row(x, 2, Bytes.times(900, 4));
  }

  private static void otherNamesAreRefused() {
    DeltaMaker x = new DeltaMaker();
    Due.feed(x, 1, 2);
    for (int what : new int[] {-1, 3, 4, 5, Integer.MIN_VALUE, Integer.MAX_VALUE}) {
      Due.is("take(" + what + ")", x.take(what), false);
    }
    Due.row(x, 3);
    Due.row(x, 4);
    Due.is("take(1)", x.take(1), true);
    Due.row(x, 1, 1, 2);
  }

  private static void otherRowsStay() {
    DeltaMaker x = Due.with("abcdefgh", "efghabcd");
    x.make();
    x.apply();
    x.inPlace();
    Due.take(x, 0, 1);
    Due.take(x, 1, 2);
    Due.take(x, 2, 3);
    Due.row(x, 3, Bytes.text("efghabcd"));
    Due.row(x, 4, Bytes.text("efghabcd"));
    Due.is("steps()", x.steps(), 2);
    Due.step(x, 0, 1, 0, 4, 4, 1, 1);
  }
}

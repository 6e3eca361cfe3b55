/** size: how many bytes one of the rows has. */
public final class Promise06Test {
  public static void main(String[] args) {
    DeltaMaker x = Due.with("abcdefgh", "efghabcd!");
    sizes(x, 8, 9, 0, 0, 0);
    x.make();
    sizes(x, 8, 9, 16, 0, 0);
    x.apply();
    sizes(x, 8, 9, 16, 9, 0);
    x.inPlace();
    sizes(x, 8, 9, 16, 9, 9);
    Due.take(x, 0, 1);
    x.apply();
    sizes(x, 1, 9, 16, 0, 9);
    Due.feed(x, 1, 2, 3);
    sizes(x, 1, 9, 16, 0, 9);
    x.take(1);
    x.make();
    x.inPlace();
    sizes(x, 1, 3, 14, 0, 3);

    x = Due.with(Bytes.times(300, 1), Bytes.times(300, 2));
    Due.take(x, 2, Bytes.times(900, 3));
    sizes(x, 300, 300, 900, 0, 0);
    for (int what : new int[] {-1, 5, 6, Integer.MIN_VALUE, Integer.MAX_VALUE}) {
      Due.is("size(" + what + ")", x.size(what), -1);
    }
    Due.end();
  }

  private static void sizes(DeltaMaker x, int... due) {
    for (int what = 0; what < due.length; what++) {
      Due.is("size(" + what + ")", x.size(what), due[what]);
    }
  }
}

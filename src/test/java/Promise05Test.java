/** byteAt: a byte of one of the five rows; NONE if there is none such. */
public final class Promise05Test {
  public static void main(String[] args) {
    DeltaMaker x = Due.with("abcdefgh", "efghabcd!");
    Due.is("make()", x.make(), 16);
    Due.is("apply()", x.apply(), 9);
    Due.is("inPlace()", x.inPlace(), 4);
    Due.is("byteAt(0, 0)", x.byteAt(0, 0), 'a');
    Due.is("byteAt(0, 7)", x.byteAt(0, 7), 'h');
    Due.is("byteAt(1, 8)", x.byteAt(1, 8), '!');
    Due.is("byteAt(2, 0)", x.byteAt(2, 0), 8);
    Due.is("byteAt(2, 1)", x.byteAt(2, 1), 9);
    Due.is("byteAt(2, 15)", x.byteAt(2, 15), '!');
    Due.is("byteAt(3, 0)", x.byteAt(3, 0), 'e');
    Due.is("byteAt(4, 8)", x.byteAt(4, 8), '!');

    int[] sizes = {8, 9, 16, 9, 9};
    for (int what = 0; what <= 4; what++) {
      for (int i : new int[] {-1, sizes[what], 299, 300, 900, Integer.MIN_VALUE, Integer.MAX_VALUE}) {
        Due.is("byteAt(" + what + ", " + i + ")", x.byteAt(what, i), -1);
      }
    }
    for (int what : new int[] {-1, 5, 6, Integer.MIN_VALUE, Integer.MAX_VALUE}) {
      Due.is("byteAt(" + what + ", 0)", x.byteAt(what, 0), -1);
    }
    bytesAreNeverBelowZero();
    whatLayBehindAShorterRowIsGone();
    Due.end();
  }

  private static void bytesAreNeverBelowZero() {
    DeltaMaker x = Due.with(Bytes.times(5, 255), Bytes.times(5, 128));
    Due.row(x, 0, Bytes.times(5, 255));
    Due.row(x, 1, Bytes.times(5, 128));
    x.make();
    x.apply();
    x.inPlace();
    Due.row(x, 3, Bytes.times(5, 128));
    Due.row(x, 4, Bytes.times(5, 128));
  }

  private static void whatLayBehindAShorterRowIsGone() {
    DeltaMaker x = Due.with("abcdefgh", "abcdefgh");
    Due.take(x, 0, 'x');
    Due.row(x, 0, 'x');
    Due.is("byteAt(0, 1)", x.byteAt(0, 1), -1);
    Due.is("byteAt(0, 7)", x.byteAt(0, 7), -1);
  }
}

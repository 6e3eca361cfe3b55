/** check: CHECK of one of the rows. */
public final class Promise11Test {
  public static void main(String[] args) {
    DeltaMaker x = new DeltaMaker();
    // One byte: 32 times it (turned left by 5) times the factor.
    Due.take(x, 0, 1);
    Due.is("check(0)", x.check(0), 32 * 0x85EBCA77);
    Due.take(x, 0, 0, 0, 0);
    Due.is("check(0) of zeros", x.check(0), 0);
    // Two: 32 * 0x85EBCA77 is 0xBD794EE0; xor 2 and turned left by 5 it is 0xAF29DC57.
    Due.take(x, 0, 1, 2);
    Due.is("check(0) of two", x.check(0), 0xAF29DC57 * 0x85EBCA77);
    Due.take(x, 0, 2, 1);
    Due.is("check(0) the other way round", x.check(0) == 0xAF29DC57 * 0x85EBCA77, false);

    eachRowHasItsOwn();
    for (int what : new int[] {-1, 5, 6, Integer.MIN_VALUE, Integer.MAX_VALUE}) {
      Due.is("check(" + what + ")", x.check(what), 0);
    }
    Due.end();
  }

  private static void eachRowHasItsOwn() {
    DeltaMaker x = Due.with("first row", "other row");
    int first = x.check(0);
    int second = x.check(1);
    Due.is("check(2) of nothing", x.check(2), 0);
    x.make();
    x.apply();
    Due.is("check(3)", x.check(3), second);
    Due.is("check(4) of nothing", x.check(4), 0);
    x.inPlace();
    Due.is("check(4)", x.check(4), second);
    Due.is("they differ", first != second && x.check(2) != 0, true);
    Due.take(x, 2, Bytes.text("other row"));
    Due.is("check(2)", x.check(2), second);
    Due.take(x, 1, Bytes.text("first row"));
    Due.is("check(1)", x.check(1), first);
    x.apply();
    Due.is("check(3) of a wrong one", x.check(3), 0);
  }
}

/** The edges of promise 11, check, and of the term CHECK. */
public final class Boundary11Test {
  public static void main(String[] args) {
    ofEmptyRows();
    ofOneByte();
    zerosCountFromTheFirstOtherByteOn();
    theProductsHighBitsAreLost();
    whatIsTurnedOutComesInBelow();
    theOrderOfBytesCounts();
    ofFullRows();
    ofRowsThatAreEmptyAgain();
    ofAWrongOutput();
    anotherWhat();
    Due.end();
  }

  private static void checked(int due, int... bytes) {
    Counted x = new Counted("CHECK of " + bytes.length);
    for (int what = 0; what <= 2; what++) {
      x.give(what, bytes);
      x.check(what, due);
    }
  }

  /** "s is 0 at first" */
  private static void ofEmptyRows() {
    Counted x = new Counted("CHECKS of nothing");
    for (int what = 0; what <= 4; what++) {
      x.check(what, 0);
    }
    checked(0);
  }

  private static void ofOneByte() {
    checked(0, 0);
    checked(0xBD794EE0, 1);
    checked(0xBCA77000, 128);
    checked(0xBBD59120, 255);
    checked(0x00DF88E0, 177);
  }

  private static void zerosCountFromTheFirstOtherByteOn() {
    checked(0, Bytes.times(300, 0));
    checked(0xBD794EE0, 0, 1);
    checked(0x703C74B1, 1, 0);
  }

  /** "in 32 bits" */
  private static void theProductsHighBitsAreLost() {
    checked(0x27070000, 177, 224);
    checked(0xD7F20000, 227, 160);
  }

  /** "ROTL(v, 5): v turned left by 5" */
  private static void whatIsTurnedOutComesInBelow() {
    // 0xBD794EE0 xor 2 turned left by 5: the highest bits, 10111, come in below.
    checked(0xAF29DC57 * 0x85EBCA77, 1, 2);
  }

  private static void theOrderOfBytesCounts() {
    checked(0x04840F07, 'a', 'b', 'c', 'd');
    checked(Bytes.checkOf('d', 'c', 'b', 'a'), 'd', 'c', 'b', 'a');
    Due.is("they differ", Bytes.checkOf('d', 'c', 'b', 'a') != 0x04840F07, true);
  }

  private static void ofFullRows() {
    int[] full = Bytes.times(300, 255);
    Counted x = Counted.with("CHECKS of full rows", full, full);
    x.make(15);
    x.apply(300);
    x.inPlace(0);
    for (int what : new int[] {0, 1, 3, 4}) {
      x.check(what, 0x82F24CD1);
    }
    x.give(2, Bytes.times(900, 255));
    x.check(2, 0xC1AFB57B);
    x.give(2, Bytes.times(900, 1));
    x.check(2, 0xAA09F78E);
  }

  private static void ofRowsThatAreEmptyAgain() {
    Counted x = new Counted("CHECKS of rows that are empty again");
    for (int what = 0; what <= 2; what++) {
      x.give(what, 1, 2, 3);
      x.take(what, true);
      x.check(what, 0);
    }
  }

  private static void ofAWrongOutput() {
    Counted x = Counted.with("CHECK of a wrong OUTPUT", "abcd", "abcd");
    x.make(12);
    x.apply(4);
    x.check(3, 0x04840F07);
    x.take(2, true);
    x.apply(-1);
    x.check(3, 0);
  }

  /** "0 for another what" */
  private static void anotherWhat() {
    Counted x = Counted.with("CHECK of another what", "abcd", "abcd");
    x.make(12);
    x.apply(4);
    x.inPlace(0);
    for (int what : Counted.STRANGE) {
      x.check(what, 0);
    }
    x.check(5, 0);
    x.check(6, 0);
  }
}

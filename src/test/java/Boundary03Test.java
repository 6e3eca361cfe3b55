/** The edges of promise 3, take. */
public final class Boundary03Test {
  public static void main(String[] args) {
    anEmptyTapeMakesAnEmptyRow();
    oneByte();
    the300thByteIsTaken();
    the301stByteIsRefusedForARow();
    aFullTapeIsRefusedForARow();
    aFullTapeBecomesPatch();
    theTapeIsEmptyThen();
    aTapeOfTooManyBytesStays();
    anotherWhatIsRefused();
    anotherWhatIsRefusedOfAnEmptyTape();
    theTapeStaysForAnotherWhat();
    aRefusedTakeLeavesEveryRow();
    everyByteIsTakenAsItIs();
    Due.end();
  }

  private static void anEmptyTapeMakesAnEmptyRow() {
    for (int what = 0; what <= 2; what++) {
      Counted x = new Counted("an empty tape to " + what);
      x.give(what, 1, 2, 3);
      x.row(what, 1, 2, 3);
      x.take(what, true);
      x.row(what);
    }
  }

  private static void oneByte() {
    for (int what = 0; what <= 2; what++) {
      Counted x = new Counted("one byte to " + what);
      x.give(what, 0);
      x.row(what, 0);
    }
  }

  /** "FIRST and SECOND: rows of at most 300 bytes" */
  private static void the300thByteIsTaken() {
    for (int what = 0; what <= 1; what++) {
      for (int n = 299; n <= 300; n++) {
        Counted x = new Counted(n + " bytes to " + what);
        x.give(what, Bytes.mixed(n));
        x.row(what, Bytes.mixed(n));
      }
    }
  }

  /** "false .. if there are too many bytes" */
  private static void the301stByteIsRefusedForARow() {
    for (int what = 0; what <= 1; what++) {
      Counted x = new Counted("301 bytes to " + what);
      x.feedAll(Bytes.times(300, 1));
      x.feed(2, 1, true);
      x.take(what, false);
      x.size(what, 0);
    }
  }

  private static void aFullTapeIsRefusedForARow() {
    Counted x = new Counted("900 bytes to a row");
    x.feedAll(Bytes.times(900, 1));
    x.take(0, false);
    x.take(1, false);
    x.size(0, 0);
    x.size(1, 0);
  }

  /** "PATCH: at most 900." */
  private static void aFullTapeBecomesPatch() {
    for (int n : new int[] {301, 899, 900}) {
      Counted x = new Counted(n + " bytes to PATCH");
      x.give(2, Bytes.join(Bytes.times(n - 1, 1), new int[] {2}));
      x.row(2, Bytes.join(Bytes.times(n - 1, 1), new int[] {2}));
    }
  }

  /** "and is empty then" */
  private static void theTapeIsEmptyThen() {
    for (int what = 0; what <= 2; what++) {
      Counted x = new Counted("empty behind take " + what);
      x.give(what, 1, 2, 3);
      for (int next = 0; next <= 2; next++) {
        x.take(next, true);
        x.row(next);
      }
    }
  }

  /** "and it stays" */
  private static void aTapeOfTooManyBytesStays() {
    Counted x = new Counted("301 bytes stay");
    x.feedAll(Bytes.times(301, 5));
    x.take(0, false);
    x.take(1, false);
    x.feed(6, 1, true);
    x.take(2, true);
    x.row(2, Bytes.join(Bytes.times(301, 5), new int[] {6}));
    x.take(0, true);
    x.row(0);
  }

  /** "or for another what" */
  private static void anotherWhatIsRefused() {
    Counted x = new Counted("another what");
    x.feedAll(1, 2);
    for (int what : Counted.STRANGE) {
      x.take(what, false);
    }
    for (int what = 3; what <= 8; what++) {
      x.take(what, false);
    }
  }

  private static void anotherWhatIsRefusedOfAnEmptyTape() {
    Counted x = new Counted("another what, of nothing");
    for (int what : Counted.STRANGE) {
      x.take(what, false);
    }
    for (int what = 3; what <= 5; what++) {
      x.take(what, false);
    }
  }

  private static void theTapeStaysForAnotherWhat() {
    Counted x = new Counted("it stays for another what");
    x.feedAll(1, 2);
    x.take(-1, false);
    x.take(3, false);
    x.feed(3, 1, true);
    x.take(4, false);
    x.take(1, true);
    x.row(1, 1, 2, 3);
  }

  private static void aRefusedTakeLeavesEveryRow() {
    Counted x = Counted.with("a refused take", "abcdefgh", "efgh");
    x.make(12);
    x.apply(4);
    x.inPlace(0);
    x.feedAll(Bytes.times(301, 1));
    for (int what : new int[] {0, 1, 3, 4, -1}) {
      x.take(what, false);
    }
    x.row(0, Bytes.text("abcdefgh"));
    x.row(1, Bytes.text("efgh"));
    x.size(2, 12);
    x.row(3, Bytes.text("efgh"));
    x.row(4, Bytes.text("efgh"));
    x.steps(1);
    x.stepIs(0, 1, 0, 4, 4, 0, 0);
  }

  /** "bytes (0 .. 255)" */
  private static void everyByteIsTakenAsItIs() {
    int[] all = new int[256];
    for (int b = 0; b < 256; b++) {
      all[b] = b;
    }
    Counted x = new Counted("every byte");
    x.give(0, all);
    for (int b = 0; b < 256; b++) {
      x.byteAt(0, b, b);
    }
    x.check(0, 0x70581842);
  }
}

/** The edges of promise 2, feed. */
public final class Boundary02Test {
  public static void main(String[] args) {
    oneByteIsTheFewest();
    eightBytesAreTheMost();
    theGreatestAndTheLeastNumbers();
    fewerThanOneAreRefused();
    moreThanEightAreRefused();
    aRefusedNumberOfBytesBringsNone();
    justEnoughRoom();
    oneByteTooLittleRoom();
    noRoomAtAll();
    noRoomGoesWithAnyNumberOfBytes();
    thereIsRoomAgainBehindTake();
    thereIsNoMoreRoomBehindARefusedTake();
    Due.end();
  }

  private static void fed(String test, long w, int n, int... due) {
    Counted x = new Counted(test);
    x.feed(w, n, true);
    x.take(0, true);
    x.row(0, due);
  }

  /** "The lowest n bytes (1 .. 8) of a number" */
  private static void oneByteIsTheFewest() {
    fed("one byte", 0x01FFL, 1, 255);
    fed("one byte", 0x0100L, 1, 0);
    fed("one byte", -128L, 1, 128);
  }

  private static void eightBytesAreTheMost() {
    fed("eight bytes", 0x8001020304050607L, 8, 128, 1, 2, 3, 4, 5, 6, 7);
    fed("seven bytes", 0x8001020304050607L, 7, 1, 2, 3, 4, 5, 6, 7);
  }

  private static void theGreatestAndTheLeastNumbers() {
    fed("the greatest", Long.MAX_VALUE, 8, 127, 255, 255, 255, 255, 255, 255, 255);
    fed("the least", Long.MIN_VALUE, 8, 128, 0, 0, 0, 0, 0, 0, 0);
    fed("the least", Long.MIN_VALUE, 7, 0, 0, 0, 0, 0, 0, 0);
    fed("zero", 0L, 8, 0, 0, 0, 0, 0, 0, 0, 0);
    fed("minus one", -1L, 5, 255, 255, 255, 255, 255);
    fed("above 32 bits", 0x0000000100000000L, 5, 1, 0, 0, 0, 0);
    fed("the 32nd bit", 0x0000000080000000L, 8, 0, 0, 0, 0, 128, 0, 0, 0);
  }

  /** "false, and none come, if n isn't so" */
  private static void fewerThanOneAreRefused() {
    for (int n : new int[] {0, -1, -8, -256, Integer.MIN_VALUE, Integer.MIN_VALUE + 1}) {
      new Counted("too few").feed(1, n, false);
    }
  }

  private static void moreThanEightAreRefused() {
    for (int n : new int[] {9, 10, 16, 64, 257, 900, 65537, Integer.MAX_VALUE}) {
      new Counted("too many").feed(1, n, false);
    }
  }

  private static void aRefusedNumberOfBytesBringsNone() {
    Counted x = new Counted("none come");
    x.feed(1, 0, false);
    x.feed(0x0203, 2, true);
    x.feed(4, 9, false);
    x.feed(4, -1, false);
    x.feed(5, 1, true);
    x.feed(6, Integer.MIN_VALUE, false);
    x.feed(6, Integer.MAX_VALUE, false);
    x.take(0, true);
    x.row(0, 2, 3, 5);
  }

  /** "or there is no room", and "TAPE takes at most 900 bytes." */
  private static void justEnoughRoom() {
    for (int n = 1; n <= 8; n++) {
      Counted x = new Counted("room for " + n);
      x.feedAll(Bytes.times(900 - n, 7));
      x.feed(-1, n, true);
      x.take(2, true);
      x.row(2, Bytes.join(Bytes.times(900 - n, 7), Bytes.times(n, 255)));
    }
  }

  private static void oneByteTooLittleRoom() {
    for (int n = 2; n <= 8; n++) {
      Counted x = new Counted("room for one fewer than " + n);
      x.feedAll(Bytes.times(901 - n, 7));
      x.feed(-1, n, false);
      x.take(2, true);
      x.row(2, Bytes.times(901 - n, 7));
    }
  }

  private static void noRoomAtAll() {
    for (int n = 1; n <= 8; n++) {
      Counted x = new Counted("a full tape, and " + n);
      x.feedAll(Bytes.times(900, 7));
      x.feed(-1, n, false);
      x.feed(-1, n, false);
      x.take(2, true);
      x.row(2, Bytes.times(900, 7));
    }
  }

  private static void noRoomGoesWithAnyNumberOfBytes() {
    Counted x = new Counted("a full tape and a wrong n");
    x.feedAll(Bytes.times(900, 7));
    for (int n : Counted.STRANGE) {
      x.feed(1, n, false);
    }
    x.feed(1, 0, false);
    x.feed(1, 9, false);
    x.take(2, true);
    x.size(2, 900);
  }

  private static void thereIsRoomAgainBehindTake() {
    Counted x = new Counted("room again");
    x.feedAll(Bytes.times(900, 1));
    x.take(2, true);
    x.feedAll(Bytes.times(900, 2));
    x.feed(3, 1, false);
    x.take(2, true);
    x.row(2, Bytes.times(900, 2));
  }

  private static void thereIsNoMoreRoomBehindARefusedTake() {
    Counted x = new Counted("no room yet");
    x.feedAll(Bytes.times(900, 1));
    x.take(0, false);
    x.take(1, false);
    x.take(3, false);
    x.feed(3, 1, false);
    x.take(2, true);
    x.row(2, Bytes.times(900, 1));
  }
}

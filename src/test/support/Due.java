/** Compares answers with those that are due, and helps to fill the rows of a DeltaMaker. */
final class Due {
  private static int asked = 0;
  private static int wrong = 0;

  private Due() {
  }

  static void is(String call, long got, long want) {
    asked++;
    if (got != want) {
      wrong++;
      System.out.println(call + " answered " + got + ", due is " + want);
    }
  }

  static void is(String call, boolean got, boolean want) {
    is(call, got ? 1L : 0L, want ? 1L : 0L);
  }

  static void feed(DeltaMaker x, int... bytes) {
    int at = 0;
    while (at < bytes.length) {
      int n = Math.min(8, bytes.length - at);
      long w = 0;
      for (int k = 0; k < n; k++) {
        w = (w << 8) | bytes[at + k];
      }
      is("feed(" + w + ", " + n + ")", x.feed(w, n), true);
      at += n;
    }
  }

  static void take(DeltaMaker x, int what, int... bytes) {
    feed(x, bytes);
    is("take(" + what + ")", x.take(what), true);
  }

  static DeltaMaker with(int[] first, int[] second) {
    DeltaMaker x = new DeltaMaker();
    take(x, 0, first);
    take(x, 1, second);
    return x;
  }

  static DeltaMaker with(String first, String second) {
    return with(Bytes.text(first), Bytes.text(second));
  }

  static void row(DeltaMaker x, int what, int... bytes) {
    is("size(" + what + ")", x.size(what), bytes.length);
    for (int i = 0; i < bytes.length; i++) {
      is("byteAt(" + what + ", " + i + ")", x.byteAt(what, i), bytes[i]);
    }
    is("byteAt(" + what + ", " + bytes.length + ")", x.byteAt(what, bytes.length), DeltaMaker.NONE);
  }

  /** The first four numbers of a STEP: whether it is a COPY, its place, its length, Q. */
  static void step(DeltaMaker x, int i, int... want) {
    for (int what = 0; what < want.length; what++) {
      is("step(" + i + ", " + what + ")", x.step(i, what), want[what]);
    }
  }

  static void placed(DeltaMaker x, int i, int aside, int turn) {
    is("step(" + i + ", 4)", x.step(i, 4), aside);
    is("step(" + i + ", 5)", x.step(i, 5), turn);
  }

  static void end() {
    System.out.println(wrong == 0 ? asked + " answers are as due" : wrong + " of " + asked + " answers are not as due");
    if (wrong != 0 || asked == 0) {
      System.exit(1);
    }
  }
}

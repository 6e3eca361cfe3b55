/**
 * A DeltaMaker whose every answer is compared with the one that is due. It counts the calls, since
 * the document promises nothing of an object's answers after its 512th.
 */
final class Counted {
  static final int CALLS_MOST = 512;

  /** Numbers that name no row, no STEP and nothing of a STEP, some of them names in fewer bits. */
  static final int[] STRANGE = {
    Integer.MIN_VALUE, Integer.MIN_VALUE + 1, -65536, -256, -2, -1, 256, 257, 65536, 1 << 30, Integer.MAX_VALUE};

  private final DeltaMaker x = new DeltaMaker();
  private final String test;
  private int calls = 0;

  Counted(String test) {
    this.test = test;
  }

  static Counted with(String test, int[] first, int[] second) {
    Counted x = new Counted(test);
    x.give(0, first);
    x.give(1, second);
    return x;
  }

  static Counted with(String test, String first, String second) {
    return with(test, Bytes.text(first), Bytes.text(second));
  }

  private void due(String call, long got, long want) {
    calls++;
    Due.is(test + ", call " + calls + ": " + call, got, want);
    if (calls > CALLS_MOST) {
      Due.is(test + " keeps to 512 calls", false, true);
    }
  }

  int callsLeft() {
    return CALLS_MOST - calls;
  }

  void feed(long w, int n, boolean due) {
    due("feed(" + w + ", " + n + ")", x.feed(w, n) ? 1 : 0, due ? 1 : 0);
  }

  void take(int what, boolean due) {
    due("take(" + what + ")", x.take(what) ? 1 : 0, due ? 1 : 0);
  }

  void make(int due) {
    due("make()", x.make(), due);
  }

  void byteAt(int what, int i, int due) {
    due("byteAt(" + what + ", " + i + ")", x.byteAt(what, i), due);
  }

  void size(int what, int due) {
    due("size(" + what + ")", x.size(what), due);
  }

  void steps(int due) {
    due("steps()", x.steps(), due);
  }

  void step(int i, int what, int due) {
    due("step(" + i + ", " + what + ")", x.step(i, what), due);
  }

  void apply(int due) {
    due("apply()", x.apply(), due);
  }

  void inPlace(int due) {
    due("inPlace()", x.inPlace(), due);
  }

  void check(int what, int due) {
    due("check(" + what + ")", x.check(what), due);
  }

  void feedAll(int... bytes) {
    int at = 0;
    while (at < bytes.length) {
      int n = Math.min(8, bytes.length - at);
      long w = 0;
      for (int k = 0; k < n; k++) {
        w = (w << 8) | bytes[at + k];
      }
      feed(w, n, true);
      at += n;
    }
  }

  void give(int what, int... bytes) {
    feedAll(bytes);
    take(what, true);
  }

  /** Of a long row the CHECK, the ends and every seventh byte, to keep within 512 calls. */
  void row(int what, int... bytes) {
    int n = bytes.length;
    size(what, n);
    check(what, Bytes.checkOf(bytes));
    for (int i = 0; i < n; i += n > 50 ? 7 : 1) {
      byteAt(what, i, bytes[i]);
    }
    if (n > 0) {
      byteAt(what, n - 1, bytes[n - 1]);
    }
    byteAt(what, n, DeltaMaker.NONE);
    byteAt(what, -1, DeltaMaker.NONE);
  }

  void made(int steps, int... patch) {
    make(patch.length);
    steps(steps);
    row(2, patch);
  }

  /** In turn: whether STEP i is a COPY, its place, its length, Q, whether put aside, its turn. */
  void stepIs(int i, int... due) {
    for (int what = 0; what < due.length; what++) {
      step(i, what, due[what]);
    }
  }

  void noStep(int i) {
    for (int what = 0; what <= 5; what++) {
      step(i, what, DeltaMaker.NONE);
    }
  }

  /** At which place of the ORDER each STEP was. */
  void order(int... turns) {
    for (int i = 0; i < turns.length; i++) {
      step(i, 5, turns[i]);
    }
  }

  /** Whether each STEP was put aside. */
  void aside(int... due) {
    for (int i = 0; i < due.length; i++) {
      step(i, 4, due[i]);
    }
  }
}

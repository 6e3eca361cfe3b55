import java.util.stream.IntStream;

/** Every call with every kind of strange number, in every kind of state: no call throws. */
public final class StrangeNumbersTest {
  private static final int[] NUMBERS = IntStream.concat(IntStream.of(Counted.STRANGE), IntStream.concat(
      IntStream.rangeClosed(0, 9), IntStream.of(39, 40, 41, 299, 300, 301, 899, 900, 901))).toArray();
  private static final long[] WORDS = {0, 1, -1, 255, 256, Integer.MIN_VALUE, Long.MIN_VALUE, Long.MAX_VALUE};
  private static final int STATES = 9;

  private final DeltaMaker x = new DeltaMaker();
  private final Model m = new Model();
  private final String state;

  private StrangeNumbersTest(int state) {
    this.state = "state " + state + ": ";
    if (state == 1) {
      feed(Bytes.times(900, 9));
    } else if (state == 2) {
      feed(Bytes.times(301, 9));
    } else if (state > 2) {
      fill(state);
    }
  }

  private void fill(int state) {
    int[] first = Bytes.mixed(300);
    give(0, first);
    give(1, Bytes.join(Bytes.part(first, 150, 150), Bytes.part(first, 0, 149), new int[] {Bytes.STRANGE}));
    if (state > 3) {
      Due.is(this.state + "make()", x.make(), m.make());
    }
    if (state > 4) {
      Due.is(this.state + "apply()", x.apply(), m.apply());
    }
    if (state > 5) {
      Due.is(this.state + "inPlace()", x.inPlace(), m.inPlace());
    }
    if (state > 6) {
      give(state % 2, new int[0]);
      Due.is(this.state + "apply()", x.apply(), m.apply());
      Due.is(this.state + "inPlace()", x.inPlace(), m.inPlace());
    }
  }

  private void feed(int... bytes) {
    for (int at = 0; at < bytes.length; at += 4) {
      int n = Math.min(4, bytes.length - at);
      long w = 0;
      for (int k = 0; k < n; k++) {
        w = w * 256 + bytes[at + k];
      }
      Due.is(state + "feed", x.feed(w, n), m.feed(w, n));
    }
  }

  private void give(int what, int... bytes) {
    feed(bytes);
    Due.is(state + "take", x.take(what), m.take(what));
  }

  public static void main(String[] args) {
    for (int state = 0; state < STATES; state++) {
      new StrangeNumbersTest(state).rows();
      new StrangeNumbersTest(state).callsWithoutNumbers();
      for (int a : NUMBERS) {
        new StrangeNumbersTest(state).reads(a);
        new StrangeNumbersTest(state).takes(a);
        new StrangeNumbersTest(state).feeds(a);
      }
    }
    Due.end();
  }

  private void rows() {
    for (int what : NUMBERS) {
      Due.is(state + "size(" + what + ")", x.size(what), m.size(what));
      Due.is(state + "check(" + what + ")", x.check(what), m.check(what));
    }
  }

  private void reads(int a) {
    for (int b : NUMBERS) {
      Due.is(state + "byteAt(" + a + ", " + b + ")", x.byteAt(a, b), m.byteAt(a, b));
      Due.is(state + "step(" + a + ", " + b + ")", x.step(a, b), m.step(a, b));
    }
  }

  private void takes(int what) {
    Due.is(state + "take(" + what + ")", x.take(what), m.take(what));
    rows();
  }

  private void feeds(int n) {
    for (long w : WORDS) {
      Due.is(state + "feed(" + w + ", " + n + ")", x.feed(w, n), m.feed(w, n));
    }
    Due.is(state + "take(2)", x.take(2), m.take(2));
    rows();
  }

  private void callsWithoutNumbers() {
    for (int k = 0; k < 2; k++) {
      Due.is(state + "apply()", x.apply(), m.apply());
      Due.is(state + "inPlace()", x.inPlace(), m.inPlace());
      Due.is(state + "make()", x.make(), m.make());
      Due.is(state + "steps()", x.steps(), m.steps());
    }
  }
}

import java.util.Random;

/**
 * Runs of calls, the same every time, on the class and on the model: every answer is compared. They
 * go beyond the 512 calls that the document promises, to see more of each state: the class does not
 * count its calls.
 */
public final class AgainstModelTest {
  private static final int RUNS = 3000;
  private final Random random;
  private final DeltaMaker x = new DeltaMaker();
  private final Model m = new Model();
  private final String run;

  private AgainstModelTest(int seed) {
    random = new Random(seed);
    run = "run " + seed + ": ";
  }

  public static void main(String[] args) {
    for (int seed = 0; seed < RUNS; seed++) {
      new AgainstModelTest(seed).go();
    }
    Due.end();
  }

  private void go() {
    compareAll();
    int rounds = 1 + random.nextInt(4);
    for (int round = 0; round < rounds; round++) {
      int[] first = someRow();
      give(0, first);
      give(1, random.nextInt(5) == 0 ? someRow() : shuffled(first));
      if (random.nextInt(6) != 0) {
        Due.is(run + "make", x.make(), m.make());
      }
      compareAll();
      Due.is(run + "apply", x.apply(), m.apply());
      Due.is(run + "inPlace", x.inPlace(), m.inPlace());
      compareAll();
      if (random.nextInt(2) == 0) {
        give(random.nextInt(3), someRow());
        Due.is(run + "inPlace again", x.inPlace(), m.inPlace());
        compareAll();
      }
      for (int k = 0; k < 8; k++) {
        spoilPatch();
        Due.is(run + "apply of a spoilt one", x.apply(), m.apply());
        compareAll();
      }
      strayCalls();
    }
  }

  private int[] someRow() {
    int most = new int[] {6, 30, 120, 300, 310}[random.nextInt(5)];
    int kinds = new int[] {1, 2, 3, 8, 256}[random.nextInt(5)];
    int n = random.nextInt(8) == 0 ? most : random.nextInt(most + 1);
    return random.ints(n, 0, kinds).toArray();
  }

  /** A row out of pieces of another one, with strange bytes between: many COPIES that cross. */
  private int[] shuffled(int[] from) {
    int[] to = new int[random.nextInt(301)];
    int at = 0;
    int longest = 1 + random.nextInt(60);
    while (at < to.length) {
      boolean strange = from.length == 0 || random.nextInt(4) == 0;
      int n = Math.min(1 + random.nextInt(longest), to.length - at);
      int start = strange ? 0 : random.nextInt(from.length);
      for (int k = 0; k < n; k++) {
        to[at + k] = strange ? random.nextInt(256) : from[(start + k) % from.length];
      }
      at += n;
    }
    return to;
  }

  private void give(int what, int[] bytes) {
    for (int b : bytes) {
      Due.is(run + "feed", x.feed(b, 1), m.feed(b, 1));
    }
    Due.is(run + "take", x.take(what), m.take(what));
  }

  private void spoilPatch() {
    int n = m.size(2);
    int[] bytes = new int[n];
    for (int i = 0; i < n; i++) {
      bytes[i] = m.byteAt(2, i);
    }
    int place = random.nextInt(n + 1);
    int kind = random.nextInt(4);
    int[] front = java.util.Arrays.copyOf(bytes, place);
    int[] back = java.util.Arrays.copyOfRange(bytes, Math.min(n, kind == 0 ? place : place + 1), n);
    int[] strange = {new int[] {0, 1, 127, 128, 255, random.nextInt(256)}[random.nextInt(6)]};
    give(2, kind == 1 ? front : kind == 2 ? Bytes.join(front, back) : Bytes.join(front, strange, back));
    if (random.nextInt(3) == 0) {
      m.make();
      x.make();
    }
  }

  private void strayCalls() {
    for (int k = 0; k < 10; k++) {
      long w = random.nextLong();
      int n = random.nextInt(12) - 2;
      int what = random.nextInt(8) - 2;
      int i = random.nextInt(400) - 50;
      Due.is(run + "feed(" + w + ", " + n + ")", x.feed(w, n), m.feed(w, n));
      Due.is(run + "step(" + i + ", " + what + ")", x.step(i, what), m.step(i, what));
      Due.is(run + "byteAt(" + what + ", " + i + ")", x.byteAt(what, i), m.byteAt(what, i));
    }
    int what = random.nextInt(8) - 2;
    Due.is(run + "take(" + what + ")", x.take(what), m.take(what));
    x.take(2);
    m.take(2);
  }

  private void compareAll() {
    for (int what = -1; what < 6; what++) {
      Due.is(run + "size(" + what + ")", x.size(what), m.size(what));
      Due.is(run + "check(" + what + ")", x.check(what), m.check(what));
      for (int i = 0; i < m.size(what); i++) {
        Due.is(run + "byteAt(" + what + ", " + i + ")", x.byteAt(what, i), m.byteAt(what, i));
      }
    }
    Due.is(run + "steps()", x.steps(), m.steps());
    for (int i = 0; i < m.steps(); i++) {
      for (int what = -1; what < 7; what++) {
        Due.is(run + "step(" + i + ", " + what + ")", x.step(i, what), m.step(i, what));
      }
    }
  }
}

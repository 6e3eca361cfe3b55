/** What README.md tells of the use of the class is so. */
public final class ReadmeTest {
  public static void main(String[] args) {
    theExample();
    aPatchFromElsewhere();
    whichCallsChangeWhichRows();
    aWrongCallChangesNothing();
    Due.end();
  }

  private static DeltaMaker example() {
    DeltaMaker x = new DeltaMaker();
    Due.is("feed first", x.feed(0x6162636465666768L, 8), true);
    Due.is("take(0)", x.take(0), true);
    Due.is("feed second", x.feed(0x6566676861626364L, 8), true);
    Due.is("take(1)", x.take(1), true);
    return x;
  }

  private static void theExample() {
    DeltaMaker x = example();
    Due.is("make()", x.make(), 14);
    Due.is("steps()", x.steps(), 2);
    Due.is("step(0, 3)", x.step(0, 3), 4);
    Due.is("step(0, 4)", x.step(0, 4), 0);
    Due.is("step(0, 5)", x.step(0, 5), DeltaMaker.NONE);
    Due.is("apply()", x.apply(), 8);
    Due.is("inPlace()", x.inPlace(), 4);
    Due.is("check(3) is check(1)", x.check(3) == x.check(1), true);
    Due.is("check(4) is check(1)", x.check(4) == x.check(1), true);
    Due.row(x, 3, Bytes.text("efghabcd"));
    Due.row(x, 4, Bytes.text("efghabcd"));
  }

  private static void aPatchFromElsewhere() {
    DeltaMaker from = example();
    int[] patch = new int[from.make()];
    for (int i = 0; i < patch.length; i++) {
      patch[i] = from.byteAt(2, i);
    }
    DeltaMaker x = new DeltaMaker();
    Due.take(x, 0, Bytes.text("abcdefgh"));
    Due.take(x, 2, patch);
    Due.is("apply()", x.apply(), 8);
    Due.row(x, 3, Bytes.text("efghabcd"));
    Due.is("make()", x.make(), 10);
    Due.is("apply() of the patch that make wrote over it", x.apply(), 0);
  }

  private static void whichCallsChangeWhichRows() {
    DeltaMaker x = example();
    sizes("behind take", x, 8, 8, 0, 0, 0);
    x.make();
    sizes("behind make", x, 8, 8, 14, 0, 0);
    x.apply();
    sizes("behind apply", x, 8, 8, 14, 8, 0);
    x.inPlace();
    sizes("behind inPlace", x, 8, 8, 14, 8, 8);
    Due.take(x, 0, 1, 2, 3);
    sizes("behind take(0)", x, 3, 8, 14, 8, 8);
    Due.take(x, 1, 1);
    sizes("behind take(1)", x, 3, 1, 14, 8, 8);
    Due.take(x, 2, 1, 2);
    sizes("behind take(2)", x, 3, 1, 2, 8, 8);
    Due.is("inPlace() of the steps as they were made", x.inPlace(), 4);
    Due.row(x, 4, Bytes.text("efghabcd"));
    Due.is("apply() of no patch", x.apply(), -1);
    sizes("behind an apply that failed", x, 3, 1, 2, 0, 8);
  }

  private static void aWrongCallChangesNothing() {
    DeltaMaker x = example();
    x.make();
    Due.is("feed(1, 9)", x.feed(1L, 9), false);
    Due.is("take(3)", x.take(3), false);
    Due.is("size(5)", x.size(5), DeltaMaker.NONE);
    Due.is("byteAt(0, 8)", x.byteAt(0, 8), DeltaMaker.NONE);
    Due.is("check(5)", x.check(5), 0);
    Due.is("step(2, 0)", x.step(2, 0), DeltaMaker.NONE);
    Due.is("step(0, 6)", x.step(0, 6), DeltaMaker.NONE);
    sizes("behind wrong calls", x, 8, 8, 14, 0, 0);
    Due.is("steps()", x.steps(), 2);
    Due.is("apply()", x.apply(), 8);
  }

  private static void sizes(String when, DeltaMaker x, int... due) {
    for (int what = 0; what < due.length; what++) {
      Due.is("size(" + what + ") " + when, x.size(what), due[what]);
    }
  }
}

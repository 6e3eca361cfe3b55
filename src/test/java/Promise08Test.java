/** step: what is to be known of a STEP. */
public final class Promise08Test {
  public static void main(String[] args) {
    DeltaMaker x = Due.with("abcdefgh", "efgh#abcd");
    x.make();
    Due.step(x, 0, 1, 0, 4, 4, 0, -1);
    Due.step(x, 1, 0, 4, 1, -1, 0, -1);
    Due.step(x, 2, 1, 5, 4, 0, 0, -1);
    // COPY 0 writes over what COPY 2 takes, and ADD 1 and COPY 2 over what COPY 0 takes.
    Due.is("inPlace()", x.inPlace(), 4);
    Due.step(x, 0, 1, 0, 4, 4, 1, 2);
    Due.step(x, 1, 0, 4, 1, -1, 0, 0);
    Due.step(x, 2, 1, 5, 4, 0, 0, 1);

    noneSuch(x);
    theOrderIsOfTheseSteps();
    Due.end();
  }

  private static void noneSuch(DeltaMaker x) {
    for (int what = -1; what <= 6; what++) {
      for (int i : new int[] {-1, 3, 4, 299, 300, 301, Integer.MIN_VALUE, Integer.MAX_VALUE}) {
        Due.is("step(" + i + ", " + what + ")", x.step(i, what), -1);
      }
    }
    for (int what : new int[] {-1, 6, 7, Integer.MIN_VALUE, Integer.MAX_VALUE}) {
      Due.is("step(0, " + what + ")", x.step(0, what), -1);
    }
  }

  private static void theOrderIsOfTheseSteps() {
    DeltaMaker x = Due.with("abcdefgh", "efghabcd");
    x.make();
    x.inPlace();
    Due.placed(x, 0, 1, 1);
    Due.placed(x, 1, 0, 0);
    x.inPlace();
    Due.placed(x, 0, 1, 1);
    Due.placed(x, 1, 0, 0);
    x.make();
    Due.placed(x, 0, 0, -1);
    Due.placed(x, 1, 0, -1);
    Due.take(x, 1, Bytes.text("abcd!efgh"));
    x.make();
    Due.placed(x, 0, 0, -1);
    Due.placed(x, 1, 0, -1);
    Due.placed(x, 2, 0, -1);
    Due.is("inPlace()", x.inPlace(), 0);
    Due.placed(x, 0, 0, 0);
    Due.placed(x, 1, 0, 2);
    Due.placed(x, 2, 0, 1);
  }
}

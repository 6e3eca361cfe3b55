/** The edges of promise 7, steps. */
public final class Boundary07Test {
  public static void main(String[] args) {
    noneBeforeMake();
    noneOfAnEmptySecond();
    oneStepOfFullRows();
    asManyAsThereCanBe();
    fullAdds();
    noneMadeAgain();
    refusedCallsLeaveThem();
    Due.end();
  }

  private static void noneBeforeMake() {
    Counted x = Counted.with("before make", "abcd", "abcd");
    x.steps(0);
    x.apply(-1);
    x.inPlace(0);
    x.steps(0);
  }

  private static void noneOfAnEmptySecond() {
    Counted x = new Counted("both empty");
    x.make(10);
    x.steps(0);
    x.give(0, Bytes.times(300, 1));
    x.make(11);
    x.steps(0);
  }

  private static void oneStepOfFullRows() {
    Counted x = Counted.with("one COPY", Bytes.mixed(300), Bytes.mixed(300));
    x.make(15);
    x.steps(1);
  }

  /** COPIES of four bytes and ADDS of one by turns: no more STEPS fit into 300 bytes. */
  private static void asManyAsThereCanBe() {
    int[] second = new int[300];
    for (int i = 0; i < 300; i++) {
      second[i] = i % 5 == 0 ? Bytes.STRANGE : i % 5;
    }
    Counted x = Counted.with("120 STEPS", new int[] {1, 2, 3, 4}, second);
    x.make(11 + 60 * 4);
    x.steps(120);
    x.stepIs(0, 0, 0, 1, -1, 0, -1);
    x.stepIs(119, 1, 296, 4, 0, 0, -1);
    x.noStep(120);
    x.apply(300);
    x.row(3, second);
    x.inPlace(0);
    x.row(4, second);
    x.steps(120);
  }

  private static void fullAdds() {
    int[] lengths = {39, 40, 41, 80, 81, 280, 281, 300};
    int[] due = {1, 1, 2, 2, 3, 7, 8, 8};
    for (int k = 0; k < lengths.length; k++) {
      Counted x = Counted.with(lengths[k] + " added", new int[0], Bytes.times(lengths[k], 1));
      x.make(9 + (lengths[k] < 128 ? 1 : 2) + lengths[k] + due[k]);
      x.steps(due[k]);
    }
  }

  private static void noneMadeAgain() {
    Counted x = Counted.with("none again", "abcd", "abcd");
    x.make(12);
    x.steps(1);
    x.take(1, true);
    x.steps(1);
    x.make(10);
    x.steps(0);
  }

  private static void refusedCallsLeaveThem() {
    Counted x = Counted.with("refused calls", "abcd", "abcd1");
    x.make(14);
    x.feed(1, 0, false);
    x.take(3, false);
    x.give(2, 0);
    x.apply(-1);
    x.steps(2);
  }
}

/** The edges of promise 1, a new object, and of what the document says of every object. */
public final class Boundary01Test {
  public static void main(String[] args) {
    atFirstAllAreEmpty();
    atFirstTheTapeIsEmpty();
    atFirstThereAreNoSteps();
    theFirstCallMayBeAny();
    the512thCallAnswersAsTheFirst();
    the512thCallOfTheDearestKinds();
    Due.end();
  }

  /** "At first all are empty." */
  private static void atFirstAllAreEmpty() {
    Counted x = new Counted("new rows");
    for (int what = 0; what <= 4; what++) {
      x.size(what, 0);
      x.byteAt(what, 0, -1);
      x.check(what, 0);
    }
  }

  private static void atFirstTheTapeIsEmpty() {
    for (int what = 0; what <= 2; what++) {
      Counted x = new Counted("new tape");
      x.take(what, true);
      x.row(what);
    }
    Counted x = new Counted("the new tape's room");
    x.feedAll(Bytes.times(900, 1));
    x.feed(1, 1, false);
  }

  private static void atFirstThereAreNoSteps() {
    Counted x = new Counted("new steps");
    x.steps(0);
    x.noStep(0);
    x.noStep(-1);
  }

  private static void theFirstCallMayBeAny() {
    new Counted("make first").make(10);
    new Counted("apply first").apply(-1);
    new Counted("inPlace first").inPlace(0);
    new Counted("take first").take(2, true);
    new Counted("wrong take first").take(3, false);
    new Counted("wrong feed first").feed(0, 0, false);
  }

  /** "An object is used for at most 512 calls after it has been made". */
  private static void the512thCallAnswersAsTheFirst() {
    Counted x = new Counted("512 calls");
    while (x.callsLeft() > 3) {
      x.feed(7, 1, true);
    }
    x.take(2, true);
    x.size(2, 509);
    x.byteAt(2, 508, 7);
  }

  private static void the512thCallOfTheDearestKinds() {
    int[] first = Bytes.mixed(300);
    int[] second = new int[300];
    for (int k = 0; k < 60; k++) {
      System.arraycopy(first, 4 * ((k * 37) % 60), second, 5 * k, 4);
      second[5 * k + 4] = Bytes.STRANGE;
    }
    Counted x = Counted.with("512 dear calls", first, second);
    Model m = new Model();
    m.give(0, first);
    m.give(1, second);
    int patch = m.make();
    int aside = m.inPlace();
    while (x.callsLeft() >= 3 + 2) {
      x.make(patch);
      x.apply(300);
      x.inPlace(aside);
    }
    while (x.callsLeft() > 2) {
      x.steps(120);
    }
    x.check(3, Bytes.checkOf(second));
    x.check(4, Bytes.checkOf(second));
  }
}

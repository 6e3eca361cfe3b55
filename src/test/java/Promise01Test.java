/** A new object: empty rows. */
public final class Promise01Test {
  public static void main(String[] args) {
    DeltaMaker x = new DeltaMaker();
    for (int what = 0; what <= 4; what++) {
      Due.row(x, what);
      Due.is("check(" + what + ")", x.check(what), 0);
    }
    Due.is("steps()", x.steps(), 0);
    Due.is("step(0, 0)", x.step(0, 0), -1);
    Due.is("step(0, 5)", x.step(0, 5), -1);

    noStepsAreDoneBeforeMake();
    anEmptyPatchLacksItsHead();
    objectsAreApart();
    Due.end();
  }

  private static void noStepsAreDoneBeforeMake() {
    DeltaMaker x = Due.with("abcd", "efgh");
    Due.is("inPlace()", x.inPlace(), 0);
    Due.row(x, 4);
  }

  private static void anEmptyPatchLacksItsHead() {
    DeltaMaker x = new DeltaMaker();
    Due.is("apply()", x.apply(), -1);
    Due.row(x, 3);
  }

  private static void objectsAreApart() {
    DeltaMaker x = Due.with("abcdef", "abcdxf");
    x.make();
    x.apply();
    x.inPlace();
    DeltaMaker y = new DeltaMaker();
    for (int what = 0; what <= 4; what++) {
      Due.row(y, what);
    }
    Due.is("steps()", y.steps(), 0);
    Due.row(x, 3, Bytes.text("abcdxf"));
  }
}

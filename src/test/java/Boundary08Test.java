/** The edges of promise 8, step. */
public final class Boundary08Test {
  private static final int NONE = -1;

  public static void main(String[] args) {
    theFirstAndTheLastStep();
    noneBehindTheLastAndBeforeTheFirst();
    strangeNumbersOfSteps();
    noneWhereThereAreNoSteps();
    noneForAnotherWhat();
    qOfAnAdd();
    qAndPlaceZero();
    theGreatestNumbers();
    noTurnBeforeInPlace();
    noTurnAgainBehindMake();
    theLatestInPlaceIsTold();
    turnsBeginAtZero();
    noneWhereMoreStepsWere();
    Due.end();
  }

  /** STEPS: ADD "1", COPY "efgh", COPY "abcd", ADD "2"; the two COPIES cross. */
  private static Counted four(String test) {
    Counted x = Counted.with(test, "abcdefgh", "1efghabcd2");
    x.make(10 + 2 + 2 + 2 + 2);
    x.steps(4);
    return x;
  }

  private static void theFirstAndTheLastStep() {
    Counted x = four("the ends");
    x.stepIs(0, 0, 0, 1, NONE, 0, NONE);
    x.stepIs(3, 0, 9, 1, NONE, 0, NONE);
    x.inPlace(4);
    // ADD 3 writes behind FIRST; then COPY 1 is put aside, and COPY 2, ADD 0 and COPY 1 follow.
    x.stepIs(0, 0, 0, 1, NONE, 0, 2);
    x.stepIs(1, 1, 1, 4, 4, 1, 3);
    x.stepIs(2, 1, 5, 4, 0, 0, 1);
    x.stepIs(3, 0, 9, 1, NONE, 0, 0);
  }

  /** "NONE if there is none such" */
  private static void noneBehindTheLastAndBeforeTheFirst() {
    Counted x = four("beside the ends");
    x.noStep(-1);
    x.noStep(4);
    x.inPlace(4);
    x.noStep(-1);
    x.noStep(4);
    x.noStep(5);
  }

  private static void strangeNumbersOfSteps() {
    Counted x = four("strange numbers");
    x.inPlace(4);
    for (int i : Counted.STRANGE) {
      x.noStep(i);
    }
    for (int i : new int[] {119, 120, 299, 300, 301}) {
      x.noStep(i);
    }
  }

  private static void noneWhereThereAreNoSteps() {
    Counted x = new Counted("no STEPS");
    x.noStep(0);
    x.make(10);
    x.noStep(0);
    x.inPlace(0);
    x.noStep(0);
    x.noStep(-1);
  }

  /** "or for another what" */
  private static void noneForAnotherWhat() {
    Counted x = four("another what");
    x.inPlace(4);
    for (int i = -1; i <= 4; i++) {
      for (int what : Counted.STRANGE) {
        x.step(i, what, NONE);
      }
      x.step(i, 6, NONE);
      x.step(i, 7, NONE);
    }
  }

  /** "3 Q (of an ADD NONE)" */
  private static void qOfAnAdd() {
    Counted x = four("Q of an ADD");
    x.step(0, 3, NONE);
    x.step(3, 3, NONE);
    x.step(1, 3, 4);
  }

  private static void qAndPlaceZero() {
    Counted x = Counted.with("zeros", "abcd", "abcd");
    x.make(12);
    x.stepIs(0, 1, 0, 4, 0);
  }

  private static void theGreatestNumbers() {
    int[] full = Bytes.mixed(300);
    Counted x = Counted.with("the greatest length", full, full);
    x.make(15);
    x.stepIs(0, 1, 0, 300, 0);
    x = Counted.with("the greatest place and Q", full, Bytes.join(Bytes.times(296, Bytes.STRANGE), Bytes.part(full, 296, 4)));
    x.make(12 + 296 + 8 + 3);
    x.steps(9);
    x.stepIs(8, 1, 296, 4, 296);
    x = Counted.with("the greatest place of an ADD", full, Bytes.join(Bytes.part(full, 0, 299), new int[] {Bytes.STRANGE}));
    x.make(12 + 3 + 2);
    x.stepIs(1, 0, 299, 1, NONE);
  }

  /** "(from 0; NONE before it)" */
  private static void noTurnBeforeInPlace() {
    Counted x = four("before inPlace");
    x.apply(10);
    x.aside(0, 0, 0, 0);
    x.order(NONE, NONE, NONE, NONE);
  }

  /** "by the latest inPlace for these STEPS": those made again are others, though they be alike. */
  private static void noTurnAgainBehindMake() {
    Counted x = four("made again");
    x.inPlace(4);
    x.make(18);
    x.aside(0, 0, 0, 0);
    x.order(NONE, NONE, NONE, NONE);
    x.inPlace(4);
    x.aside(0, 1, 0, 0);
    x.order(2, 3, 1, 0);
  }

  private static void theLatestInPlaceIsTold() {
    Counted x = four("twice");
    x.inPlace(4);
    x.inPlace(4);
    x.aside(0, 1, 0, 0);
    x.order(2, 3, 1, 0);
    x.give(0, 1);
    x.give(1, 2);
    x.inPlace(4);
    x.aside(0, 1, 0, 0);
    x.order(2, 3, 1, 0);
  }

  private static void turnsBeginAtZero() {
    Counted x = Counted.with("one turn", "abcd", "abcd");
    x.make(12);
    x.inPlace(0);
    x.stepIs(0, 1, 0, 4, 0, 0, 0);
  }

  private static void noneWhereMoreStepsWere() {
    Counted x = four("fewer STEPS");
    x.inPlace(4);
    x.give(1, 1);
    x.make(12);
    x.stepIs(0, 0, 0, 1, NONE, 0, NONE);
    for (int i = 1; i <= 4; i++) {
      x.noStep(i);
    }
  }
}

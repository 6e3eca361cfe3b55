/** apply: PATCH is APPLIED to FIRST, or what is wrong is told. */
public final class Promise09Test {
  private static final int[] ABCDEFGH = Bytes.text("abcdefgh");

  public static void main(String[] args) {
    aMadePatchGivesSecond();
    otherPatchesThanMadeOnesDo();
    headsOfAWrongForm();
    theHeadIsReadBeforeItIsJudged();
    theHeadIsJudgedInItsOrder();
    stepsOfAWrongForm();
    copiesOutsideFirst();
    tooManyBytes();
    tooFewOrOtherBytes();
    whatIsWrongFirstIsTold();
    aWrongOneLeavesOutputEmpty();
    Due.end();
  }

  private static int checkOf(int... bytes) {
    DeltaMaker x = new DeltaMaker();
    Due.take(x, 1, bytes);
    return x.check(1);
  }

  /** A PATCH for "abcdefgh" with a right head for a due second row. */
  private static int[] patch(int[] second, int... steps) {
    return Bytes.join(new int[] {8, second.length}, Bytes.word(checkOf(ABCDEFGH)), Bytes.word(checkOf(second)), steps);
  }

  private static DeltaMaker applied(int due, int[] first, int[] patch) {
    DeltaMaker x = new DeltaMaker();
    Due.take(x, 0, first);
    Due.take(x, 2, patch);
    Due.is("apply() of " + java.util.Arrays.toString(patch), x.apply(), due);
    if (due < 0) {
      Due.row(x, 3);
    }
    return x;
  }

  private static void wrong(int due, int[] patch) {
    applied(due, ABCDEFGH, patch);
  }

  private static void right(String second, int... steps) {
    DeltaMaker x = applied(second.length(), ABCDEFGH, patch(Bytes.text(second), steps));
    Due.row(x, 3, Bytes.text(second));
  }

  private static void aMadePatchGivesSecond() {
    String[][] pairs = {{"", ""}, {"abcd", ""}, {"", "abcd"}, {"abcdefgh", "efgh#abcd"}, {"aaaaaa", "aaaaaaaaaaaaab"}};
    for (String[] pair : pairs) {
      DeltaMaker x = Due.with(pair[0], pair[1]);
      x.make();
      Due.take(x, 1, Bytes.text("something else"));
      Due.is("apply()", x.apply(), pair[1].length());
      Due.row(x, 3, Bytes.text(pair[1]));
      Due.row(x, 0, Bytes.text(pair[0]));
      Due.is("steps stay", x.apply(), pair[1].length());
    }
    DeltaMaker x = Due.with(Bytes.times(300, 255), Bytes.times(300, 0));
    x.make();
    Due.is("apply()", x.apply(), 300);
    Due.row(x, 3, Bytes.times(300, 0));
  }

  private static void otherPatchesThanMadeOnesDo() {
    right("", new int[0]);
    right("a", 3, 0);
    right("hgab", 3, 14, 3, 3, 5, 13);
    right("xy", 2, 'x', 2, 'y');
    right("ghab", 5, 12, 5, 15);
    DeltaMaker x = applied(300, ABCDEFGH, Bytes.join(new int[] {8, 172, 2}, Bytes.word(checkOf(ABCDEFGH)),
        Bytes.word(checkOf(Bytes.times(300, 5))), new int[] {216, 4}, Bytes.times(300, 5)));
    Due.row(x, 3, Bytes.times(300, 5));
  }

  private static void headsOfAWrongForm() {
    int[] whole = patch(new int[0]);
    for (int n = 0; n < whole.length; n++) {
      wrong(-1, java.util.Arrays.copyOf(whole, n));
    }
    int[] rest = new int[8];
    wrong(-1, Bytes.join(new int[] {128, 0, 0}, rest));
    wrong(-1, Bytes.join(new int[] {136, 0, 0}, rest));
    wrong(-1, Bytes.join(new int[] {136, 128, 0, 0}, rest));
    wrong(-1, Bytes.join(new int[] {8, 129, 0}, rest));
    wrong(-1, Bytes.join(new int[] {129, 128, 128, 128, 1, 0}, rest));
    wrong(-1, Bytes.join(new int[] {8, 255, 255, 255, 255, 127}, rest));
    wrong(-1, Bytes.times(900, 255));
    applied(-1, new int[0], new int[] {128});
  }

  private static void theHeadIsReadBeforeItIsJudged() {
    wrong(-1, new int[] {7, 0, 0, 0, 0, 0, 0, 0, 0});
    wrong(-1, new int[] {8, 173, 2, 0, 0, 0, 0, 0, 0, 0});
    wrong(-2, Bytes.join(new int[] {255, 255, 255, 127, 255, 255, 255, 127}, Bytes.times(8, 255)));
  }

  private static void theHeadIsJudgedInItsOrder() {
    int[] due = Bytes.word(checkOf(ABCDEFGH));
    int[] zero = new int[4];
    wrong(-2, Bytes.join(new int[] {7, 173, 2}, zero, zero));
    wrong(-2, Bytes.join(new int[] {9, 0}, due, zero));
    wrong(-2, Bytes.join(new int[] {136, 1, 0}, due, zero));
    wrong(-3, Bytes.join(new int[] {8, 173, 2}, zero, zero));
    for (int k = 0; k < 4; k++) {
      int[] other = due.clone();
      other[k] ^= 1;
      wrong(-3, Bytes.join(new int[] {8, 0}, other, zero));
    }
    wrong(-4, Bytes.join(new int[] {8, 173, 2}, due, zero));
    wrong(-4, Bytes.join(new int[] {8, 255, 255, 255, 127}, due, zero));
    wrong(-4, Bytes.join(new int[] {8, 173, 2}, due, zero, new int[] {0}));
    wrong(-7, Bytes.join(new int[] {8, 172, 2}, due, zero));
  }

  private static void stepsOfAWrongForm() {
    int[] second = Bytes.text("ab");
    wrong(-1, patch(second, 0));
    wrong(-1, patch(second, 0, 'a'));
    wrong(-1, patch(second, 1));
    wrong(-1, patch(second, 1, 0));
    wrong(-1, patch(second, 1, 99));
    wrong(-1, patch(second, 5));
    wrong(-1, patch(second, 5, 128));
    wrong(-1, patch(second, 5, 128, 0));
    wrong(-1, patch(second, 133, 0, 0));
    wrong(-1, patch(second, 4, 'a'));
    wrong(-1, patch(second, 4));
    wrong(-1, patch(second, 128));
    wrong(-1, patch(second, 132, 128, 128, 128, 0, 'a', 'b'));
    wrong(-1, patch(second, 5, 0, 0));
    wrong(-1, patch(second, 5, 0, 128));
    wrong(-1, patch(second, 255, 255, 255, 255, 127, 0));
    wrong(-1, patch(second, 5, 255, 255, 255, 255, 127));
  }

  private static void copiesOutsideFirst() {
    int[] second = Bytes.text("ab");
    wrong(-5, patch(second, 5, 1));
    wrong(-5, patch(second, 5, 14));
    wrong(-5, patch(second, 5, 16));
    wrong(-5, patch(second, 19, 0));
    wrong(-5, patch(second, 255, 255, 255, 127, 0));
    wrong(-5, patch(second, 5, 254, 255, 255, 127));
    wrong(-5, patch(second, 5, 255, 255, 255, 127));
    wrong(-5, patch(second, 255, 255, 255, 127, 255, 255, 255, 127));
    // Behind a COPY of two bytes from 2 on, 4 back are too many, and 3 forth.
    wrong(-5, patch(Bytes.text("cdab"), 5, 4, 5, 9));
    wrong(-5, patch(Bytes.text("cdab"), 5, 4, 5, 6));
    right("cdab", 5, 4, 5, 7);
    right("cdgh", 5, 4, 5, 4);
    applied(-5, new int[0], new int[] {0, 1, 0, 0, 0, 0, 0, 0, 0, 0, 3, 0});
  }

  private static void tooManyBytes() {
    wrong(-6, patch(Bytes.text("a"), 4, 'a', 'b'));
    wrong(-6, patch(Bytes.text("a"), 5, 0));
    wrong(-6, patch(Bytes.text("a"), 3, 0, 2, 'b'));
    wrong(-6, patch(new int[0], 2, 'b'));
    wrong(-6, patch(Bytes.text("abc"), 5, 0, 5, 0));
    DeltaMaker x = new DeltaMaker();
    Due.take(x, 0, ABCDEFGH);
    Due.take(x, 2, Bytes.join(new int[] {8, 172, 2}, Bytes.word(checkOf(ABCDEFGH)), new int[] {0, 0, 0, 0},
        new int[] {218, 4}, Bytes.times(301, 1)));
    Due.is("apply() of 301 bytes", x.apply(), -6);
    Due.row(x, 3);
  }

  private static void tooFewOrOtherBytes() {
    wrong(-7, patch(Bytes.text("ab")));
    wrong(-7, patch(Bytes.text("ab"), 3, 0));
    wrong(-7, patch(Bytes.text("ab"), 2, 'x'));
    wrong(-8, patch(Bytes.text("ab"), 4, 'a', 'c'));
    wrong(-8, patch(Bytes.text("ab"), 5, 2));
    int[] bad = patch(new int[0]);
    bad[9] = 1;
    wrong(-8, bad);
  }

  private static void whatIsWrongFirstIsTold() {
    // Within a STEP the form goes before the place in FIRST, and that before the room in SECOND.
    wrong(-1, patch(Bytes.text("a"), 40, 'a'));
    wrong(-5, patch(Bytes.text("a"), 41, 0));
    // A STEP that is wrong goes before what is wrong with a later one.
    wrong(-6, patch(Bytes.text("a"), 5, 0, 0));
    wrong(-5, patch(Bytes.text("a"), 5, 16, 0));
    wrong(-1, patch(Bytes.text("abc"), 3, 0, 0, 5, 99));
    wrong(-5, patch(Bytes.text("abc"), 3, 0, 5, 99, 1, 10, 1, 1, 1, 1, 1));
  }

  private static void aWrongOneLeavesOutputEmpty() {
    DeltaMaker x = Due.with("abcdefgh", "efgh");
    x.make();
    Due.is("apply()", x.apply(), 4);
    Due.row(x, 3, Bytes.text("efgh"));
    Due.take(x, 0, Bytes.text("abcdefgx"));
    Due.is("apply()", x.apply(), -3);
    Due.row(x, 3);
    Due.is("check(3)", x.check(3), 0);
    Due.take(x, 0, ABCDEFGH);
    Due.is("apply()", x.apply(), 4);
    Due.row(x, 3, Bytes.text("efgh"));
  }
}

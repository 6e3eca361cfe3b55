/** steps: how many STEPS there are. */
public final class Promise07Test {
  public static void main(String[] args) {
    DeltaMaker x = Due.with("abcdefgh", "efgh#abcd");
    Due.is("steps() before make", x.steps(), 0);
    x.make();
    Due.is("steps()", x.steps(), 3);
    x.apply();
    x.inPlace();
    Due.is("steps() after inPlace", x.steps(), 3);
    Due.take(x, 1, Bytes.text("abcd"));
    Due.take(x, 2, 0);
    Due.is("steps() after take", x.steps(), 3);
    x.make();
    Due.is("steps() made again", x.steps(), 1);
    Due.take(x, 1);
    x.make();
    Due.is("steps() of nothing", x.steps(), 0);
    Due.take(x, 1, Bytes.times(300, 255));
    x.make();
    Due.is("steps() of 300 added bytes", x.steps(), 8);
    Due.end();
  }
}

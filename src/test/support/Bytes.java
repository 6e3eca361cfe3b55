import java.util.Arrays;

/** Rows of bytes for tests, made apart from the class. */
final class Bytes {
  /** A byte that mixed() never has. */
  static final int STRANGE = 255;

  private Bytes() {
  }

  /** Bytes out of a text of characters 0 to 255. */
  static int[] text(String s) {
    return s.chars().toArray();
  }

  static int[] times(int n, int b) {
    int[] bytes = new int[n];
    Arrays.fill(bytes, b);
    return bytes;
  }

  static int[] join(int[]... parts) {
    return Arrays.stream(parts).flatMapToInt(Arrays::stream).toArray();
  }

  static int[] part(int[] bytes, int from, int n) {
    return Arrays.copyOfRange(bytes, from, from + n);
  }

  /** A row of up to 300 bytes in which no two neighbours come twice: each run has one place. */
  static int[] mixed(int n) {
    int[] bytes = new int[n];
    for (int i = 0; i < n; i++) {
      bytes[i] = i < 250 ? i : 2 * (i - 250);
    }
    return bytes;
  }

  static int checkOf(int... bytes) {
    long s = 0;
    for (int b : bytes) {
      s = (Integer.toUnsignedLong(Integer.rotateLeft((int) s ^ b, 5)) * 0x85EBCA77L) & 0xFFFFFFFFL;
    }
    return (int) s;
  }

  /** The highest byte first. */
  static int[] word(int s) {
    return new int[] {s >>> 24, (s >>> 16) & 255, (s >>> 8) & 255, s & 255};
  }

  /** A PATCH with a right head; a size is told as its VARINT's bytes. */
  static int[] patch(int[] firstSize, int[] secondSize, int[] first, int[] second, int... steps) {
    return join(firstSize, secondSize, word(checkOf(first)), word(checkOf(second)), steps);
  }

  /** A PATCH with a right head, of rows of at most 127 bytes. */
  static int[] patch(int[] first, int[] second, int... steps) {
    return patch(new int[] {first.length}, new int[] {second.length}, first, second, steps);
  }
}

import java.util.ArrayList;
import java.util.Arrays;
import java.util.List;

/**
 * The document once more, as slow and as near to its words as may be, written apart from the
 * class: what the two answer is compared.
 */
final class Model {
  static final class Part {
    boolean copy;
    int place;
    int q = -1;
    List<Integer> bytes = new ArrayList<>();
    boolean aside;
    int turn = -1;
    boolean left;
    List<Integer> kept;
  }

  private final List<Integer> tape = new ArrayList<>();
  private final List<List<Integer>> rows = new ArrayList<>();
  private List<Part> parts = new ArrayList<>();
  private List<Integer> firstThen = new ArrayList<>();
  private int secondSizeThen = 0;

  Model() {
    for (int i = 0; i < 5; i++) {
      rows.add(new ArrayList<>());
    }
  }

  boolean feed(long w, int n) {
    if (n < 1 || n > 8 || tape.size() + n > 900) {
      return false;
    }
    byte[] all = java.nio.ByteBuffer.allocate(8).putLong(w).array();
    for (int i = 8 - n; i < 8; i++) {
      tape.add(all[i] & 0xff);
    }
    return true;
  }

  boolean take(int what) {
    if (what < 0 || what > 2 || tape.size() > (what == 2 ? 900 : 300)) {
      return false;
    }
    rows.set(what, new ArrayList<>(tape));
    tape.clear();
    return true;
  }

  void give(int what, int... bytes) {
    for (int b : bytes) {
      feed(b, 1);
    }
    take(what);
  }

  int byteAt(int what, int i) {
    return what < 0 || what > 4 || i < 0 || i >= rows.get(what).size() ? -1 : rows.get(what).get(i);
  }

  int size(int what) {
    return what < 0 || what > 4 ? -1 : rows.get(what).size();
  }

  int check(int what) {
    return what < 0 || what > 4 ? 0 : checkOf(rows.get(what));
  }

  int steps() {
    return parts.size();
  }

  int step(int i, int what) {
    if (i < 0 || i >= parts.size()) {
      return -1;
    }
    Part s = parts.get(i);
    int[] answers = {s.copy ? 1 : 0, s.place, s.bytes.size(), s.q, s.aside ? 1 : 0, s.turn};
    return what < 0 || what > 5 ? -1 : answers[what];
  }

  static int checkOf(List<Integer> row) {
    long s = 0;
    for (int b : row) {
      s = Integer.toUnsignedLong(Integer.rotateLeft((int) (s ^ b), 5)) * 0x85EBCA77L & 0xffffffffL;
    }
    return (int) s;
  }

  int make() {
    List<Integer> first = rows.get(0);
    List<Integer> second = rows.get(1);
    firstThen = new ArrayList<>(first);
    secondSizeThen = second.size();
    parts = new ArrayList<>();
    int p = 0;
    while (p < second.size()) {
      int l = 0;
      int q = -1;
      for (int n = 4; p + n <= second.size(); n++) {
        int found = java.util.Collections.indexOfSubList(first, second.subList(p, p + n));
        if (found < 0) {
          break;
        }
        l = n;
        q = found;
      }
      Part last = parts.isEmpty() ? null : parts.get(parts.size() - 1);
      if (l == 0 && last != null && !last.copy && last.bytes.size() < 40) {
        last.bytes.add(second.get(p));
        p++;
        continue;
      }
      Part s = new Part();
      s.copy = l > 0;
      s.place = p;
      s.q = q;
      s.bytes.addAll(second.subList(p, p + Math.max(1, l)));
      parts.add(s);
      p += s.bytes.size();
    }
    rows.set(2, patchOf(first, second));
    return rows.get(2).size();
  }

  private List<Integer> patchOf(List<Integer> first, List<Integer> second) {
    List<Integer> patch = new ArrayList<>();
    patch.addAll(varint(first.size()));
    patch.addAll(varint(second.size()));
    patch.addAll(word(checkOf(first)));
    patch.addAll(word(checkOf(second)));
    int before = 0;
    for (Part s : parts) {
      if (s.copy) {
        patch.addAll(varint(2 * s.bytes.size() + 1));
        int v = s.q - before;
        patch.addAll(varint(v >= 0 ? 2 * v : -2 * v - 1));
        before = s.q + s.bytes.size();
      } else {
        patch.addAll(varint(2 * s.bytes.size()));
        patch.addAll(s.bytes);
      }
    }
    return patch;
  }

  static List<Integer> varint(long v) {
    List<Integer> bytes = new ArrayList<>();
    for (; v >= 128; v /= 128) {
      bytes.add((int) (v % 128 + 128));
    }
    bytes.add((int) v);
    return bytes;
  }

  static List<Integer> word(int s) {
    return Arrays.asList(s >>> 24, s >>> 16 & 255, s >>> 8 & 255, s & 255);
  }

  /** Told by the place where PATCH is wrong; the reading goes on from the list's own rest. */
  private static final class Wrong extends Exception {
    private static final long serialVersionUID = 1L;
    final int told;

    Wrong(int told) {
      this.told = told;
    }
  }

  int apply() {
    try {
      rows.set(3, applied(new ArrayList<>(rows.get(2)), rows.get(0)));
      return rows.get(3).size();
    } catch (Wrong wrong) {
      rows.set(3, new ArrayList<>());
      return wrong.told;
    }
  }

  private static List<Integer> applied(List<Integer> rest, List<Integer> first) throws Wrong {
    long firstSize = readVarint(rest);
    long secondSize = readVarint(rest);
    List<Integer> firstCheck = readBytes(rest, 4);
    List<Integer> secondCheck = readBytes(rest, 4);
    unless(firstSize == first.size(), -2);
    unless(firstCheck.equals(word(checkOf(first))), -3);
    unless(secondSize <= 300, -4);
    List<Integer> out = new ArrayList<>();
    long before = 0;
    while (!rest.isEmpty()) {
      long head = readVarint(rest);
      long length = head / 2;
      unless(length > 0, -1);
      List<Integer> bytes;
      if (head % 2 == 0) {
        bytes = readBytes(rest, length);
      } else {
        long z = readVarint(rest);
        long q = before + (z % 2 == 0 ? z / 2 : -(z + 1) / 2);
        unless(q >= 0 && q + length <= first.size(), -5);
        bytes = first.subList((int) q, (int) (q + length));
        before = q + length;
      }
      unless(out.size() + bytes.size() <= secondSize, -6);
      out.addAll(bytes);
    }
    unless(out.size() == secondSize, -7);
    unless(secondCheck.equals(word(checkOf(out))), -8);
    return out;
  }

  private static void unless(boolean right, int told) throws Wrong {
    if (!right) {
      throw new Wrong(told);
    }
  }

  private static List<Integer> readBytes(List<Integer> rest, long n) throws Wrong {
    unless(rest.size() >= n, -1);
    List<Integer> bytes = new ArrayList<>(rest.subList(0, (int) n));
    rest.subList(0, (int) n).clear();
    return bytes;
  }

  private static long readVarint(List<Integer> rest) throws Wrong {
    List<Integer> seen = new ArrayList<>();
    do {
      seen.addAll(readBytes(rest, 1));
    } while (seen.get(seen.size() - 1) >= 128);
    long v = 0;
    for (int i = Math.min(seen.size(), 6) - 1; i >= 0; i--) {
      v = v * 128 + seen.get(i) % 128;
    }
    unless(seen.size() <= 4 && varint(v).equals(seen), -1);
    return v;
  }

  int inPlace() {
    int total = 0;
    Integer[] memory = new Integer[600];
    for (int i = 0; i < firstThen.size(); i++) {
      memory[i] = firstThen.get(i);
    }
    for (Part s : parts) {
      s.left = true;
      s.aside = false;
      s.turn = -1;
      s.kept = null;
    }
    int turn = 0;
    while (parts.stream().anyMatch(s -> s.left)) {
      Part next = parts.stream().filter(s -> s.left && isFree(s)).findFirst().orElse(null);
      if (next == null) {
        Part small = parts.stream().filter(s -> s.left && s.copy && !s.aside)
            .min(java.util.Comparator.comparingInt(s -> s.bytes.size())).orElseThrow();
        small.kept = outOf(memory, small);
        small.aside = true;
        total += small.bytes.size();
        continue;
      }
      List<Integer> bytes = !next.copy ? next.bytes : next.aside ? next.kept : outOf(memory, next);
      for (int k = 0; k < bytes.size(); k++) {
        memory[next.place + k] = bytes.get(k);
      }
      next.left = false;
      next.turn = turn++;
    }
    rows.set(4, new ArrayList<>(Arrays.asList(memory).subList(0, secondSizeThen)));
    return total;
  }

  private static List<Integer> outOf(Integer[] memory, Part s) {
    return Arrays.asList(Arrays.copyOfRange(memory, s.q, s.q + s.bytes.size()));
  }

  private boolean isFree(Part s) {
    for (Part other : parts) {
      if (other == s || !other.left || !other.copy || other.aside) {
        continue;
      }
      for (int k = 0; k < s.bytes.size(); k++) {
        int at = s.place + k;
        if (at >= other.q && at < other.q + other.bytes.size()) {
          return false;
        }
      }
    }
    return true;
  }
}

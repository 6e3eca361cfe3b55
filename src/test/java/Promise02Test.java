/** feed: the lowest n bytes of a number, the highest of these first, come onto the TAPE. */
public final class Promise02Test {
  public static void main(String[] args) {
    bytesComeTheHighestFirst();
    onlyTheLowestBytesCome();
    otherNumbersOfBytesAreRefused();
    theTapeTakes900Bytes();
    aRefusedFeedLeavesTheTape();
    Due.end();
  }

  private static void bytesComeTheHighestFirst() {
    DeltaMaker x = new DeltaMaker();
    Due.is("feed(8)", x.feed(0x0102030405060708L, 8), true);
    Due.is("feed(3)", x.feed(0xAABBCCL, 3), true);
    Due.is("feed(1)", x.feed(-1L, 1), true);
    Due.is("take(0)", x.take(0), true);
    Due.row(x, 0, 1, 2, 3, 4, 5, 6, 7, 8, 0xAA, 0xBB, 0xCC, 255);
    Due.is("feed(-2, 8)", x.feed(-2L, 8), true);
    Due.is("feed(MIN, 8)", x.feed(Long.MIN_VALUE, 8), true);
    Due.is("take(1)", x.take(1), true);
    Due.row(x, 1, 255, 255, 255, 255, 255, 255, 255, 254, 128, 0, 0, 0, 0, 0, 0, 0);
  }

  private static void onlyTheLowestBytesCome() {
    DeltaMaker x = new DeltaMaker();
    int[] due = new int[0];
    for (int n = 1; n <= 8; n++) {
      Due.is("feed(" + n + ")", x.feed(0xF1F2F3F4F5F6F7F8L, n), true);
      int[] part = new int[n];
      for (int k = 0; k < n; k++) {
        part[k] = 0xF8 - n + 1 + k;
      }
      due = Bytes.join(due, part);
    }
    Due.is("take(0)", x.take(0), true);
    Due.row(x, 0, due);
  }

  private static void otherNumbersOfBytesAreRefused() {
    DeltaMaker x = new DeltaMaker();
    for (int n : new int[] {0, -1, 9, 16, Integer.MIN_VALUE, Integer.MAX_VALUE}) {
      Due.is("feed(1, " + n + ")", x.feed(1, n), false);
    }
    Due.is("take(2)", x.take(2), true);
    Due.row(x, 2);
  }

  private static void theTapeTakes900Bytes() {
    DeltaMaker x = new DeltaMaker();
    Due.feed(x, Bytes.times(896, 7));
    Due.is("feed(5 where 4 have room)", x.feed(9, 5), false);
    Due.is("feed(4 where 4 have room)", x.feed(9, 4), true);
    Due.is("feed(1 where none has room)", x.feed(1, 1), false);
    Due.is("take(2)", x.take(2), true);
    Due.row(x, 2, Bytes.join(Bytes.times(896, 7), new int[] {0, 0, 0, 9}));
    Due.is("feed after take", x.feed(5, 8), true);
  }

  private static void aRefusedFeedLeavesTheTape() {
    DeltaMaker x = new DeltaMaker();
    Due.feed(x, 1, 2, 3);
    Due.is("feed(4, 9)", x.feed(4, 9), false);
    Due.is("feed(4, 0)", x.feed(4, 0), false);
    Due.take(x, 0, 5);
    Due.row(x, 0, 1, 2, 3, 5);
  }
}

import com.sun.management.ThreadMXBean;
import java.lang.management.ManagementFactory;

/**
 * The room of all calls of one run: some 600,000 objects and arrays, 7.3 million fields and elements. Counted in bytes,
 * each of the dearest calls may take 512 times, together with its object, a part of it that leaves the rest for others.
 */
public final class RoomTest {
  private static final int NONE = OnePair.NONE;
  private static final long MOST_BYTES = 7_300_000L * 4;
  private static final String VALLEY = "slots 48;pace 3;start 3;" + "two 99 9 9;eye 0 8 9;colour 50 7 9;eye 30 9 0;".repeat(2)
      + "must 3 0 1;must 7 40 41;";
  private static final String ROUND = "at 3 0 1;at 3 5 6;at 7 30 31;at 3 40 41;";
  private static final String LEDGER = "own 0 0 0 48;own 1 1 0 48;own 2 2 0 48;" + "pawn 0 1 0 0 9;" + "will 0 1;".repeat(20)
      + "dies 0;";

  private static void call(OnePair x, int kind, int turn) {
    int what = turn % 3;
    int n = turn % 26;
    switch (kind) {
      case 0: x.best(0, 0, n, 0, 7, what); break;
      case 1: x.spot(0, 0, n, 0, 7, 6, turn % 48); break;
      case 2: x.buys(0, 0, n, 0, turn % 8, -1); break;
      case 3: x.deal(0, 0, n, 0, 0, 1 + turn % 7, what); break;
      case 4: x.both(0, 0, n, 0, turn % 2 == 0); break;
      case 5: x.day(0, 0, n, 0, turn % 18); break;
      case 6: x.needs(0, 0, n, 0, turn, 9, what); break;
      case 7: x.ease(0, 0, n, 0, turn % 8, 1 + turn % 48, turn % 2 == 0); break;
      case 8: x.likely(0, turn % 2); break;
      case 9: x.blame(0, turn % 3, turn % 2, turn % 30); break;
      case 10: x.row(0, turn % 3, turn % 8, turn % 432, what); break;
      case 11: x.cross(0, turn % 2); break;
      case 12: x.ways(0, 0, n, 0); break;
      case 13: x.image(what); break;
      case 14: x.again(what); break;
      default: tellAgain(x, turn); break;
    }
  }

  private static void tellAgain(OnePair x, int turn) {
    x.feed(0x6469_6573, 0x2031_3b20, 0x6469_6573, 0x2031_3b20, 0x2020_2020);
    if (turn % 30 == 29) {
      x.text(2, 1);
    }
  }

  private static OnePair told() {
    OnePair x = Telling.told(VALLEY, ROUND, LEDGER, "error 0 3;".repeat(20));
    Telling.tell(x, 1, NONE, "");
    Telling.tell(x, 1, NONE, ROUND);
    Telling.tell(x, 2, NONE, "");
    Telling.tell(x, 3, NONE, "error 1 99;".repeat(20));
    return x;
  }

  public static void main(String[] args) {
    Telling telling = new Telling();
    ThreadMXBean threads = (ThreadMXBean) ManagementFactory.getThreadMXBean();
    long self = Thread.currentThread().getId();
    for (int kind = 0; kind < 16; kind++) {
      long before = threads.getThreadAllocatedBytes(self);
      OnePair x = told();
      for (int turn = 0; turn < 400; turn++) {
        call(x, kind, turn);
      }
      long bytes = threads.getThreadAllocatedBytes(self) - before;
      telling.due("calls of kind " + kind + " take " + bytes + " bytes", bytes < MOST_BYTES, true);
    }
    telling.close("RoomTest");
  }
}

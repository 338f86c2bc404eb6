/** Terms 5 and 6, promises 28 and 33 to 37: what a best day makes, and what would change it. */
public final class DayBoundaryTest {
  private static final int NONE = OnePair.NONE;
  /** One slot between the houses 0 and 1; house 2 by touch. */
  private static final String THREE = "slots 6;pace 9;eye 0 1 2;eye 9 5 3;touch 50 4 9;";
  private static final String TWO = "slots 6;pace 9;eye 0 1 0;eye 9 5 0;";
  private static Boundary b;

  private static Asked by(String valley, String ledger) {
    return Asked.of(valley, null, ledger, null);
  }

  /** What 0 to 7, then STAY of each HOUSE, behind all deeds, on day 0. */
  private static void day(String valley, String ledger, int... due) {
    Asked x = by(valley, ledger);
    long n = x.ask("stop", 0);
    for (int what = 0; what < due.length; what++) {
      b.asks(x, "day 0 0 " + n + " 0 " + (what < 8 ? what : what + 2), due[what]);
    }
  }

  private static void ofDay(String valley, int what, int due) {
    b.due("day " + what + " of " + valley, by(valley, null).ask("day", 0, NONE, 0, 0, what), due);
  }

  private static void days() {
    b.says("YIELD: rows of all HOUSES that are right by BEST, where it is at SPOTS: GAIN and what TOUCH makes;"
        + " SPOILED: those that are wrong (BLIND of each HOUSE but TOUCH, in each slot in which the pair is not there by"
        + " SPOTS, or it does not SEE, or MAY not).");
    day(THREE, "", 25 + 24, 12 + 3, 0, 1, 5, 2, 1, 9, 0, 5, 0);
    day(THREE, "own 7 0 0 6;", 24, 12 + 18, 6, 0, 6, NONE, 1, 1, 6, 0, 0);
    day(THREE, "own 7 1 0 6;", 25 + 24, 12 + 3, 0, 1, 5, 2, 1, 9, 0, 5, 0);
    day(THREE, "own 7 0 5 6;", 20 + 24, 12 + 3 + 3, 1, 1, 5, 2, 1, 9, 0, 5, 0);
    day(THREE, "own 1 0 0 6;", 25 + 24, 12 + 3, 0, 1, 5, 1, 0, 9, 0, 5, 0);
    day("slots 5;light 1 3;colour 0 7 2;", "", 14, 6, 3, 0, 5, 1, 0, 1, 5);
    day("slots 1;eye 0 0 0;", "", 0, 0, 1, 0, 1, NONE, NONE, 1, 1);
    day("slots 48;" + "touch 0 9 9;".repeat(8), "own 7 0 0 48;", 8 * 432, 0, 48, 0, 48, NONE, NONE, 1, 48, 0, 0, 0);
    day("slots 48;" + "eye 0 9 9;".repeat(8), "", 432, 7 * 432, 0, 0, 48, 0, 1, 1, 48, 0, 0, 0, 0, 0, 0, 0);
    b.says("STAY of a HOUSE: in how many slots it is there by SPOTS; IDLE: in how many it is at a HOUSE without GAIN;"
        + " ROAD: in how many on a WAY. LONGEST: the most slots one behind the other at one HOUSE.");
    day("slots 7;pace 9;eye 0 0 0;eye 9 0 1;must 1 2 3;must 0 4 5;", "", 0, 6, 5, 2, 3, NONE, NONE, 9, 4, 1);
    day("slots 5;pace 1;eye 0 0 0;eye 4 1 0;", "", 1, 0, 0, 4, 1, 4, 1, 4, 0, 1);
    day("slots 5;pace 9;eye 0 1 0;eye 0 2 0;must 0 0 2;must 1 3 5;", "", 6, 0, 0, 1, 2, 3, 1, 1, 2, 2);
  }

  private static void changes() {
    b.says("DEAREST: the slot that is of most SPARE alone, above 0; of several the least.");
    ofDay("slots 3;eye 0 0 0;", 5, NONE);
    ofDay("slots 3;touch 0 9 0;", 5, NONE);
    ofDay("slots 3;eye 0 1 0;", 5, 0);
    ofDay("slots 3;light 2 3;colour 0 1 0;", 5, 2);
    ofDay("slots 48;light 47 48;colour 0 1 0;", 5, 47);
    ofDay(TWO, 5, 2);
    // 5 in slot 0, 3 in slots 2 and 3: one slot alone
    ofDay("slots 4;pace 9;eye 0 5 0;eye 9 3 0;must 0 0 1;must 1 2 4;", 5, 0);
    ofDay("slots 4;pace 9;eye 0 3 0;eye 9 5 0;must 0 0 2;must 1 3 4;", 5, 3);
    // either of two slots can be had, not both: none is of any spare
    day("slots 3;pace 9;eye 50 0 0;eye 41 5 0;eye 59 5 0;", "own 7 0 0 1;own 1 0 1 2;own 2 0 2 3;", 5, 0, 1, 1, 1, NONE);
    b.says("LESSON: the HOUSE by which, if its KIND was TOUCH, YIELD grows most, above 0; of several the least.");
    ofDay("slots 4;eye 0 5 0;", 6, NONE);
    ofDay("slots 4;touch 0 5 0;", 6, NONE);
    ofDay("slots 4;eye 0 0 9;eye 0 0 9;", 6, NONE);
    ofDay("slots 4;light 0 3;colour 0 5 0;", 6, 0);
    ofDay("slots 4;eye 0 0 0;eye 0 1 0;eye 0 1 0;", 6, 1);
    ofDay("slots 4;eye 0 1 0;eye 0 1 0;eye 0 1 0;", 6, 1);
    ofDay("slots 4;eye 0 1 0;eye 99 2 0;touch 0 1 0;eye 9 1 0;eye 9 2 0;", 6, 1);
    ofDay("slots 4;" + "eye 0 0 0;".repeat(7) + "eye 0 1 0;", 6, 7);
    ofDay("slots 4;eye 0 3 0;eye 0 5 0;", 6, 1);
    // by whole glasses 12 + 32 rows by house 0, 32 + 9 by house 1; by a cracked one 12 + 16
    ofDay("slots 4;start 1;eye 0 3 0;two 0 8 0;", 6, 0);
    ofDay("slots 4;start 1;eye 0 3 0;colour 0 8 0;", 6, 0);
    b.says("ENOUGH: the least PACE by which BEST's GAIN is what it is by 99.");
    for (int pace : new int[] {1, 9, 98, 99}) {
      String ahead = "slots 2;pace " + pace + ";eye 0 0 0;";
      ofDay(ahead + "eye 99 5 0;", 7, 99);
      ofDay(ahead + "eye 98 5 0;", 7, 98);
      ofDay(ahead + "eye 2 5 0;", 7, 2);
      ofDay(ahead + "eye 1 5 0;", 7, 1);
      ofDay(ahead + "eye 0 5 0;", 7, 1);
      ofDay(ahead, 7, 1);
      ofDay("slots 3;pace " + pace + ";eye 0 5 0;eye 99 4 0;", 7, 1);
    }
    ofDay("slots 4;eye 0 3 0;two 99 5 0;", 7, 99);
    ofDay("slots 4;eye 0 3 0;colour 99 5 0;", 7, 99);
    ofDay("slots 3;pace 50;eye 0 0 0;eye 20 0 0;must 1 1 2;", 7, 20);
    ofDay("slots 3;pace 50;eye 0 0 0;eye 20 0 0;must 1 2 3;", 7, 10);
    ofDay("slots 4;pace 50;eye 0 0 0;eye 99 1 0;must 1 3 4;", 7, 99);
    ofDay("slots 1;pace 50;eye 0 0 0;eye 99 9 0;", 7, 1);
  }

  private static void home(String valley, int home, int last) {
    Asked x = by(valley, null);
    b.due("home of " + valley, x.ask("home", 0, NONE, 0, 0, 0), home);
    b.due("last of " + valley, x.ask("home", 0, NONE, 0, 0, 1), last);
  }

  private static void homes() {
    b.says("HOME: the most GAIN, if the pair must be at START behind the last slot.");
    home("slots 1;eye 0 3 0;", 3, 0);
    home("slots 2;pace 9;eye 0 1 0;eye 9 9 0;", 2, 1);
    home("slots 3;pace 9;eye 0 1 0;eye 9 9 0;", 9, 1);
    home("slots 4;pace 9;eye 0 1 0;eye 18 9 0;", 4, 1);
    home("slots 5;pace 9;eye 0 1 0;eye 18 9 0;", 9, 1);
    home("slots 3;start 1;pace 9;eye 0 9 0;eye 9 1 0;", 9, 0);
    home("slots 3;eye 0 5 0;eye 9 1 0;", 15, 0);
    b.says("What 0: HOME (NONE: by none), 1: LAST.");
    home("slots 3;eye 0 1 0;eye 9 9 0;must 1 2 3;", NONE, 1);
    home("slots 4;pace 9;eye 0 1 0;eye 10 9 0;must 1 2 3;", NONE, 1);
    home("slots 5;pace 9;eye 0 1 0;eye 10 9 0;must 1 2 3;", 9, 1);
    home("slots 3;eye 0 1 0;eye 9 9 0;must 0 2 3;", 3, 0);
    b.says("LAST: where it is behind the last slot by SPOTS.");
    home("slots 1;eye 0 0 0;eye 0 0 0;", 0, 0);
    home("slots 2;eye 0 0 0;eye 0 0 0;eye 0 1 0;", 0, 2);
    home("slots 48;pace 1;eye 0 0 0;eye 47 1 0;", 0, 1);
    home("slots 48;pace 1;eye 0 0 0;eye 48 1 0;", 0, 0);
  }

  private static void ways(String valley, long due) {
    b.due("ways of " + valley, by(valley, null).ask("ways", 0, NONE, 0, 0), due);
  }

  private static void manyWays() {
    b.says("WAYS: how many unlike ways make BEST's GAIN with its CLIMB (unlike by where it goes when),"
        + " 1000000000000 at most.");
    ways("slots 1;eye 0 0 0;", 1);
    ways("slots 48;eye 0 9 0;", 1);
    ways("slots 48;eye 0 0 0;eye 1 0 0;", 1);
    ways("slots 1;eye 0 0 0;eye 0 0 0;", 2);
    ways("slots 1;" + "eye 0 0 0;".repeat(8), 8);
    ways("slots 5;eye 0 0 0;eye 0 0 0;", 32);
    ways("slots 25;eye 0 0 0;eye 0 0 0;eye 0 0 0;", 847288609443L);
    ways("slots 26;eye 0 0 0;eye 0 0 0;eye 0 0 0;", 1000000000000L);
    ways("slots 39;eye 0 0 0;eye 0 0 0;", 549755813888L);
    ways("slots 40;eye 0 0 0;eye 0 0 0;", 1000000000000L);
    ways("slots 48;eye 0 0 0;eye 0 0 0;", 1000000000000L);
    ways("slots 48;" + "eye 0 0 0;".repeat(8), 1000000000000L);
    ways("slots 48;" + "eye 99 0 0;".repeat(8) + "must 0 0 1;", 1000000000000L);
    ways("slots 4;pace 9;eye 0 0 0;eye 9 0 0;eye 18 1 0;", 2);
    ways("slots 4;pace 9;eye 0 0 0;eye 18 1 0;", 1);
    ways("slots 4;pace 9;eye 0 0 0;eye 9 0 0;must 1 2 3;must 0 0 1;", 1);
    ways("slots 5;pace 9;eye 0 0 0;eye 9 0 0;must 1 3 4;must 0 0 1;", 2);
    ways("slots 6;pace 9;eye 0 0 0;eye 9 0 0;must 1 3 4;must 0 0 1;", 2);
  }

  private static void buys(String valley, String ledger, int house, int gain, int... slots) {
    Asked x = by(valley, ledger);
    long n = x.ask("stop", 0);
    String state = "0 0 " + n + " 0 " + house;
    b.asks(x, "buys " + state + " -1", slots.length);
    b.asks(x, "buys " + state + " -2", gain);
    for (int k = 0; k < slots.length; k++) {
      b.asks(x, "buys " + state + " " + k, slots[k]);
    }
    b.asks(x, "buys " + state + " " + slots.length, -2);
    b.asks(x, "buys " + state + " -3", -2);
  }

  private static void buying() {
    b.says("BUYS of a HOUSE: so long as there is a slot that another one HOLDS by which, if this HOUSE HELD it (and those"
        + " that it buys ahead), BEST's GAIN grows: that by which it grows most; of several the least.");
    buys(TWO, "own 0 0 0 6;", 1, 25, 5, 4, 3, 2, 1);
    buys(TWO, "own 0 0 0 6;", 0, 6);
    buys(TWO, "", 1, 25);
    buys(TWO, "own 1 0 0 6;", 1, 25);
    buys(TWO, "own 0 1 0 6;", 1, 25);
    buys(TWO, "own 0 0 0 1;", 1, 25);
    buys(TWO, "own 0 0 0 6;pawn 0 1 0 0 6;", 1, 25);
    buys(TWO, "own 1 0 0 6;pawn 1 0 0 5 6;", 1, 25, 5);
    buys("slots 3;eye 0 2 0;", "own 7 0 0 3;", 0, 6, 0, 1, 2);
    buys("slots 3;eye 0 2 0;", "own 7 0 1 2;", 0, 6, 1);
    buys("slots 3;eye 0 0 0;", "own 7 0 0 3;", 0, 0);
    buys("slots 3;touch 0 9 0;", "own 7 0 0 3;", 0, 0);
    buys("slots 4;light 1 3;colour 0 4 0;", "own 7 0 0 4;", 0, 8, 1, 2);
    buys("slots 3;eye 0 2 0;eye 9 0 0;must 1 1 2;", "own 7 0 0 3;", 0, 0);
    buys("slots 3;eye 0 2 0;eye 9 0 0;must 1 2 3;", "own 7 0 0 3;", 0, 2, 0);
    int[] all = new int[48];
    for (int slot = 0; slot < 48; slot++) {
      all[slot] = slot;
    }
    buys("slots 48;eye 0 9 0;", "own 7 0 0 48;", 0, 432, all);
    Asked kept = by(TWO, "own 0 0 0 6;");
    b.asks(kept, "buys 0 0 1 0 1 -1", 5);
    b.asks(kept, "owner 0 1 0 5 1", 0);
    b.asks(kept, "buys 0 0 1 0 1 -1", 5);
  }

  private static void both(String valley, int first, int second) {
    Asked x = by(valley, null);
    b.due("first of " + valley, x.ask("both", 0, NONE, 0, 0, 0), first);
    b.due("second of " + valley, x.ask("both", 0, NONE, 0, 0, 1), second);
  }

  private static void two() {
    b.says("BOTH: the two HOUSES by which, if both their KINDS were TOUCH, YIELD grows most, above 0;"
        + " of several the first by rows.");
    both("slots 4;eye 0 9 0;", NONE, NONE);
    both("slots 4;light 0 1;colour 0 9 0;", NONE, NONE);
    both("slots 4;eye 0 0 0;eye 0 0 0;", NONE, NONE);
    both("slots 4;touch 0 9 0;touch 0 9 0;", NONE, NONE);
    both("slots 4;eye 0 9 0;eye 0 0 0;", NONE, NONE);
    both("slots 4;eye 0 9 0;eye 0 1 0;", 0, 1);
    both("slots 4;" + "eye 0 1 0;".repeat(8), 1, 2);
    both("slots 4;" + "eye 99 1 0;" + "eye 0 1 0;".repeat(7) + "start 7;", 0, 1);
    both("slots 4;" + "eye 0 0 0;".repeat(6) + "eye 0 1 0;eye 0 1 0;", 6, 7);
    both("slots 4;eye 0 1 0;eye 0 0 0;eye 0 9 0;eye 0 1 0;", 2, 3);
    both("slots 4;eye 0 0 0;eye 0 1 0;eye 0 1 0;eye 0 1 0;", 1, 2);
    both(THREE, 0, 1);
    // by whole glasses 24 + 32 rows, or 12 + 32 + 9; by a cracked one 24 + 16
    both("slots 4;start 2;eye 0 3 0;eye 0 3 0;two 0 8 0;", 0, 1);
  }

  private static void ease(String valley, int house, int m, int f, int harm) {
    Asked x = by(valley, null);
    b.due("ease of " + house + ", " + m + " on " + valley, x.ask("ease", 0, NONE, 0, 0, house, m, 0), f);
    b.due("its harm of " + house + ", " + m + " on " + valley, x.ask("ease", 0, NONE, 0, 0, house, m, 1), harm);
  }

  private static void easing() {
    b.says("EASE of a HOUSE by m slots: the f by which HARM of slots f, m of them, is least; of several the least.");
    ease(TWO, 0, 1, 0, 25 - 1 - 20);
    ease(TWO, 0, 6, 0, 19);
    ease(TWO, 0, 5, 0, 19);
    ease(TWO, 0, 7, -2, -2);
    ease(TWO, 0, 0, -2, -2);
    ease(TWO, 1, 1, 1, 0);
    ease(TWO, 1, 5, 1, 0);
    ease("slots 6;pace 9;eye 0 5 0;eye 9 1 0;", 1, 1, 5, 30 - 20 - 1);
    ease("slots 6;pace 9;eye 0 5 0;eye 9 1 0;", 1, 5, 1, 30 - 5);
    ease("slots 6;pace 9;eye 0 5 0;eye 9 1 0;", 0, 6, 0, 0);
    ease("slots 3;pace 9;eye 0 0 0;eye 0 0 0;", 1, 1, 1, 0);
    ease("slots 1;eye 0 1 0;", 0, 1, 0, 0);
    ease("slots 48;eye 0 1 0;", 0, 48, 0, 0);
    b.says("EASE, m 1 .. SLOTS: f, or (harm) HARM then. NONE: by none.");
    ease(TWO, 1, 6, NONE, NONE);
    ease("slots 1;eye 0 1 0;eye 0 1 0;", 1, 1, NONE, NONE);
    ease("slots 4;pace 9;eye 0 1 0;eye 36 1 0;", 1, 1, NONE, NONE);
    ease("slots 5;pace 9;eye 0 1 0;eye 36 1 0;", 1, 1, 4, 5 - 1);
    ease("slots 5;pace 9;eye 0 1 0;eye 36 1 0;", 1, 2, NONE, NONE);
    ease("slots 4;eye 0 1 0;eye 9 1 0;must 0 0 4;", 1, 1, NONE, NONE);
    ease("slots 4;eye 0 1 0;eye 9 1 0;must 0 0 4;", 0, 4, 0, 0);
    ease("slots 4;eye 0 1 0;eye 9 1 0;must 0 1 2;", 1, 1, 3, 4 - 3);
    ease("slots 4;eye 0 1 0;eye 9 1 0;must 0 1 2;", 1, 2, NONE, NONE);
  }

  public static void main(String[] args) throws Exception {
    b = new Boundary("DayBoundaryTest");
    days();
    changes();
    homes();
    manyWays();
    buying();
    two();
    easing();
    b.close();
  }
}

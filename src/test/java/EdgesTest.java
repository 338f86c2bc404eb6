/**
 * Promises 6 to 37: each number of each call at its least and its most, and one beyond both; with all that can be
 * told, with as little as can be told, with nothing told, and where there is no BEST.
 */
public final class EdgesTest {
  private static final int NONE = OnePair.NONE;
  private static Boundary b;

  /** Slot 0 is a must of house 1, but the pair is at house 0. */
  private static final String NO_BEST = "slots 6;eye 0 2 1;two 9 2 1;must 1 0 1;";

  /** All that can be told, of all sorts as many as may be: by house 0 alone the pair gains, on days 0 and 6. */
  private static Asked full() {
    String valley = "slots 48;pace 50;light 0 48;start 0;eye 0 1 1;eye 99 3 2;two 50 5 3;colour 10 7 4;touch 20 2 5;"
        + "eye 30 4 6;two 40 6 7;eye 99 9 9;" + "must 0 0 1;".repeat(5) + "must 0 47 48;";
    String ledger = "own 0 0 0 48;own 0 6 0 48;" + "will 0 1;".repeat(28);
    String round = "at 0 0 1;at 7 40 41;at 7 41 42;" + "at 7 45 46;".repeat(13);
    Asked asked = Asked.of(valley, round, ledger, "error 7 99;".repeat(20)).and(0, valley).and(1, round).and(1, round);
    return asked.and(2, ledger).and(3, "error 0 0;".repeat(20));
  }

  /** One house, one slot, texts without a line. */
  private static Asked small() {
    return Asked.of("slots 1;eye 0 1 0;", "", "", "");
  }

  private static void toldNumbers() {
    Asked x = full();
    Asked one = small();
    b.says("Of a VALLEY, what 0: SLOTS, 1: PACE, 2, 3: LIGHT from, to, 4: START, 5: HOUSES, 6: MUSTS,"
        + " 10 + k, 20 + k, 30 + k: MUST k's HOUSE, f, t. NONE: there is none such, or for another what.");
    b.edges(x, "valley 0 0", NONE, 0, "0 1", "-2 -1 2 3");
    b.edges(x, "valley 0 0", NONE, 1, "0 1 2 3 4 5 6 10 11 15 20 25 30 35", "-2 -1 7 8 9 16 19 26 29 36 39 40 45 50 100");
    b.edges(one, "valley 0 0", NONE, 0, "0", "-1 1 2");
    b.edges(one, "valley 0 0", NONE, 1, "0 1 2 3 4 5 6", "-1 7 9 10 20 30 40");
    Asked must = Asked.of("eye 0 0 0;must 0 0 1;", null, null, null);
    b.edges(must, "valley 0 0", NONE, 1, "6 10 20 30", "9 11 19 21 29 31 40");
    b.says("Of a HOUSE, what 0: HEIGHT, 1: KIND, 2: RATE, 3: BLIND."
        + " NONE: there is none such (of either), or for another what.");
    b.edges(x, "house 0 0 0", NONE, 0, "0 1", "-1 2");
    b.edges(x, "house 0 0 0", NONE, 1, "0 1 7", "-1 8");
    b.edges(x, "house 0 7 0", NONE, 2, "0 1 2 3", "-2 -1 4 5");
    b.edges(one, "house 0 0 0", NONE, 1, "0", "-1 1");
    b.says("STEPS of two HOUSES, or (slots) how many slots a WAY takes. NONE: there is none such (of any).");
    b.edges(x, "way 0 0 0 0", NONE, 0, "0 1", "-1 2");
    for (int slots = 0; slots < 2; slots++) {
      b.edges(x, "way 0 0 1 " + slots, NONE, 1, "0 1 7", "-1 8");
      b.edges(x, "way 0 1 0 " + slots, NONE, 2, "0 1 7", "-1 8");
      b.edges(one, "way 0 0 0 " + slots, NONE, 1, "0", "-1 1");
      b.edges(one, "way 0 0 0 " + slots, NONE, 2, "0", "-1 1");
    }
    b.says("Of a ROUND on a VALLEY, what 0: STOP, 1: RIGHT, 2: WRONG, 3: CLIMB, 4, 5: RIGHT, WRONG, if it is CRACKED."
        + " NONE: there is none such (of either), or for another what.");
    b.edges(x, "play 0 0 0", NONE, 0, "0 1", "-1 2");
    b.edges(x, "play 0 0 0", NONE, 1, "0 1 2", "-1 3");
    b.edges(x, "play 0 0 0", NONE, 2, "0 1 2 3 4 5", "-2 -1 6 7");
    b.edges(one, "play 0 0 0", NONE, 0, "0", "-1 1");
    b.edges(one, "play 0 0 0", NONE, 1, "0", "-1 1 2");
  }

  private static void linesOf(Asked x, String name, int sheets, int lines, int width) {
    String answered = "0 " + (sheets - 1);
    b.edges(x, name + " 0 0 0", -2, 0, answered, "-2 -1 " + sheets);
    b.edges(x, name + " 0 -1 0", -2, 0, answered, "-2 -1 " + sheets);
    b.edges(x, name + " 0 0 0", -2, 1, "-1 0 1 " + (lines - 1), "-2 -3 " + lines + " " + (lines + 1));
    b.edges(x, name + " 0 -1 0", -2, 2, "0", "-2 -1 1 2 " + width);
    b.edges(x, name + " 0 " + (lines - 1) + " 0", -2, 2, "0 1 " + (width - 1), "-2 -1 " + width + " " + (width + 1));
  }

  private static void noLines(String name) {
    b.asks(small(), name + " 0 -1 0", 0);
    b.edges(small(), name + " 0 -1 0", -2, 0, "0", "-1 1 2");
    b.edges(small(), name + " 0 -1 0", -2, 1, "-1", "-2 0 1");
  }

  private static void toldLines() {
    b.says("How many LEGS (k NONE, what 0); of LEG k, what 0: its HOUSE, 1: f, 2: t."
        + " -2: there is none such (of either), or for another what.");
    linesOf(full(), "leg", 3, 16, 3);
    noLines("leg");
    b.says("How many DEEDS (k NONE, what 0); of DEED k, what 0: 0 own, 1 sell, 2 pawn, 3 back, 4 will, 5 dies, 1 .. 5:"
        + " its numbers as told (NONE without). -2: there is none such (of either), or for another what.");
    linesOf(full(), "deed", 2, 30, 6);
    noLines("deed");
    b.says("How many ERRORS (k NONE, what 0); of ERROR k, what 0: its HOUSE, 1: its ROW."
        + " -2: there is none such (of either), or for another what.");
    linesOf(full(), "error", 2, 20, 2);
    noLines("error");
  }

  private static void rounds() {
    Asked x = full();
    Asked one = small();
    b.says("Where the pair is in a slot of a ROUND (NONE: on a WAY). -2: there is none such (of any).");
    b.edges(x, "where 0 0 0", -2, 0, "0 1", "-1 2");
    b.edges(x, "where 0 0 0", -2, 1, "0 1 2", "-1 3");
    b.edges(x, "where 0 0 0", -2, 2, "0 1 47", "-2 -1 48 49");
    b.edges(one, "where 0 0 0", -2, 2, "0", "-1 1 47");
    b.says("ROW n of a HOUSE, what 0: its slot, 1: 1 if it is wrong, else 0; 2: where the pair was then (NONE: on a WAY)."
        + " -2: there is none such (of any), or for another what.");
    for (int what = 0; what < 3; what++) {
      b.edges(x, "row 0 0 0 0 " + what, -2, 0, "0 1", "-1 2");
      b.edges(x, "row 0 0 0 0 " + what, -2, 1, "0 1 2", "-1 3");
      b.edges(x, "row 0 0 0 0 " + what, -2, 2, "0 7", "-1 8");
      b.edges(x, "row 0 0 0 0 " + what, -2, 3, "0 47", "-2 -1 48");
      b.edges(x, "row 0 0 7 0 " + what, -2, 3, "0 431", "-1 432");
      b.edges(one, "row 0 0 0 0 " + what, -2, 2, "0", "-1 1");
      b.edges(one, "row 0 0 0 0 " + what, -2, 3, "0", "-1 1");
    }
    b.edges(x, "row 0 0 7 431 0", -2, 4, "0 1 2", "-2 -1 3 4");
    b.says("Of a HOUSE and a ROUND, what 0: how many rows, 1: how many are wrong, 2: the first of these (NONE), 3: slots in"
        + " which one was made that is wrong (how many). -2: there is none such (of any), or for another what.");
    b.edges(x, "rows 0 0 0 0", -2, 0, "0 1", "-1 2");
    b.edges(x, "rows 0 0 0 0", -2, 1, "0 1 2", "-1 3");
    b.edges(x, "rows 0 0 0 0", -2, 2, "0 7", "-1 8");
    b.edges(x, "rows 0 0 0 0", -2, 3, "0 1 2 3", "-2 -1 4 5");
    b.edges(one, "rows 0 0 0 0", -2, 2, "0", "-1 1");
  }

  private static void ledgers() {
    Asked x = full();
    Asked one = small();
    b.says("STOP. NONE: there is none such.");
    b.edges(x, "stop 0", NONE, 0, "0 1", "-2 -1 2");
    b.edges(one, "stop 0", NONE, 0, "0", "-1 1");
    b.says("OWNER, or (holder) HOLDER of a slot, 0 .. 47, of a day, 0 .. 6. NONE: nobody."
        + " -2: there is no such STATE, day, slot.");
    for (int holder = 0; holder < 2; holder++) {
      b.edges(x, "owner 0 0 0 0 " + holder, -2, 0, "-1 0 1", "-2 2");
      b.edges(x, "owner 0 0 0 0 " + holder, -2, 1, "0 1 30", "-2 -1 31");
      b.edges(x, "owner -1 0 0 0 " + holder, -2, 1, "0", "-1 1");
      b.edges(one, "owner 0 0 0 0 " + holder, -2, 1, "0", "-1 1");
      b.edges(x, "owner 0 0 0 0 " + holder, -2, 2, "0 6", "-2 -1 7");
      b.edges(x, "owner 0 0 6 0 " + holder, -2, 3, "0 47", "-2 -1 48");
      b.edges(one, "owner 0 0 6 0 " + holder, -2, 3, "0 1 47", "-1 48");
    }
    b.says("Of a HOUSE, 0 .. 7, what 0: how many slots of the week it OWNS, 1: HOLDS, 2: its HEIR as told (NONE),"
        + " 3: 1 if it is dead, else 0. -2: there is no such STATE, or none such (of either).");
    b.edges(x, "has 0 0 0 0", -2, 0, "-1 0 1", "-2 2");
    b.edges(x, "has 0 0 0 0", -2, 1, "0 30", "-1 31");
    b.edges(x, "has -1 0 0 0", -2, 1, "0", "-1 1");
    b.edges(x, "has 0 0 0 0", -2, 2, "0 7", "-1 8");
    b.edges(one, "has 0 0 0 0", -2, 2, "0 7", "-1 8");
    b.edges(x, "has 0 0 7 0", -2, 3, "0 1 2 3", "-2 -1 4 5");
    b.says("LAWFUL on a day: NONE, or the first LEG that is not. -2: there is no such STATE, day, or none such (of either).");
    b.edges(x, "lawful 0 0 0 0 0", -2, 0, "0 1", "-1 2");
    b.edges(x, "lawful 0 0 0 0 0", -2, 1, "0 1 2", "-1 3");
    b.edges(x, "lawful 0 0 0 0 0", -2, 2, "-1 0 1", "-2 2");
    b.edges(x, "lawful 0 0 0 0 0", -2, 3, "0 30", "-1 31");
    b.edges(x, "lawful 0 0 -1 0 0", -2, 3, "0", "-1 1");
    b.edges(x, "lawful 0 0 0 0 0", -2, 4, "0 6", "-1 7");
    b.says("CROSS. NONE: there is none such (of either).");
    b.edges(x, "cross 0 0", NONE, 0, "0 1", "-2 -1 2");
    b.edges(x, "cross 0 0", NONE, 1, "0 1", "-2 -1 2");
    b.edges(one, "cross 0 0", NONE, 0, "0", "-1 1");
    b.edges(one, "cross 0 0", NONE, 1, "0", "-1 1");
  }

  /** The numbers that all calls of a BEST have ahead: VALLEY, LEDGER, n, day. */
  private static void stateOf(Asked x, String name, int refusal, String others) {
    b.edges(x, name + " 0 0 30 0" + others, refusal, 0, "0 1", "-2 -1 2");
    b.edges(x, name + " 0 0 30 0" + others, refusal, 1, "0 1", "-2 -1 2");
    b.edges(x, name + " 0 0 30 0" + others, refusal, 2, "2 30", "-2 -1 31");
    b.edges(x, name + " 0 0 30 0" + others, refusal, 3, "0 6", "-2 -1 7 8");
    if (!name.equals("deal")) {
      b.edges(x, name + " 0 -1 1 0" + others, refusal, 2, "0", "-2 -1 1");
    }
  }

  private static void best() {
    Asked x = full();
    b.says("BEST from a day, so many days, what 0: GAIN, 1: CLIMB, 2: GAIN, if it is CRACKED."
        + " NONE: there is no BEST, no such STATE, day, number of days, VALLEY, or for another what.");
    for (int what = 0; what < 3; what++) {
      stateOf(x, "best", NONE, " 1 " + what);
      b.edges(x, "best 0 0 30 6 1 " + what, NONE, 4, "1 2 6 7", "-2 -1 0 8 9");
      b.edges(small(), "best 0 0 0 0 1 " + what, NONE, 2, "0", "-1 1");
      b.edges(small(), "best 0 0 0 0 1 " + what, NONE, 0, "0", "-1 1");
    }
    b.edges(x, "best 0 0 30 6 7 0", NONE, 5, "0 1 2", "-2 -1 3 4");
    b.says("SPOT of a slot of the i-th day, from 0 on (NONE: on a WAY). -2: as best(), or there is no such slot.");
    stateOf(x, "spot", -2, " 1 0 0");
    b.edges(x, "spot 0 0 30 6 1 0 0", -2, 4, "1 2 7", "-1 0 8");
    b.edges(x, "spot 0 0 30 6 1 0 0", -2, 5, "0", "-2 -1 1 2 6");
    b.edges(x, "spot 0 0 30 6 7 0 0", -2, 5, "0 1 6", "-2 -1 7");
    b.edges(x, "spot 0 0 30 6 7 6 0", -2, 6, "0 1 47", "-2 -1 48 49");
    b.edges(small(), "spot 0 0 0 6 7 6 0", -2, 6, "0", "-2 -1 1 47");
  }

  private static void needsOfOne() {
    Asked x = full();
    Asked one = small();
    b.says("HARM, or (lender) LENDER (NONE: on a WAY); BEST of one day."
        + " -2: there is no BEST (HARM: or none with it), as best(), or there is no such HOUSE, slots.");
    for (int lender = 0; lender < 2; lender++) {
      stateOf(x, "harm", -2, " 4 10 20 " + lender);
      b.edges(x, "harm 0 0 30 0 4 10 20 " + lender, -2, 4, "0 1 7", "-2 -1 8");
      b.edges(x, "harm 0 0 30 0 0 1 2 " + lender, -2, 5, "0 1", "-2 -1 2 3 48");
      b.edges(x, "harm 0 0 30 0 0 47 48 " + lender, -2, 5, "20 47", "-1 48 49");
      b.edges(x, "harm 0 0 30 0 0 46 48 " + lender, -2, 6, "47 48", "-1 0 45 46 49 50");
      b.edges(one, "harm 0 0 0 0 0 0 1 " + lender, -2, 4, "0", "-1 1");
      b.edges(one, "harm 0 0 0 0 0 0 1 " + lender, -2, 5, "0", "-1 1");
      b.edges(one, "harm 0 0 0 0 0 0 1 " + lender, -2, 6, "1", "-1 0 2 48");
    }
    b.says("SOON. -2: as harm().");
    stateOf(x, "soon", -2, " 4 10");
    b.edges(x, "soon 0 0 30 0 4 10", -2, 4, "0 7", "-2 -1 8");
    b.edges(x, "soon 0 0 30 0 4 10", -2, 5, "0 47", "-2 -1 48");
    b.edges(one, "soon 0 0 0 0 0 0", -2, 4, "0", "-1 1");
    b.edges(one, "soon 0 0 0 0 0 0", -2, 5, "0", "-1 1");
    b.says("WORTH of one day, or (house NONE) SPARE. -2: as harm().");
    stateOf(x, "worth", -2, " 4 10 20");
    b.edges(x, "worth 0 0 30 0 4 10 20", -2, 4, "-1 0 7", "-3 -2 8");
    for (int house = -1; house < 1; house++) {
      b.edges(x, "worth 0 0 30 0 " + house + " 1 2", -2, 5, "0 1", "-1 2 3 48");
      b.edges(x, "worth 0 0 30 0 " + house + " 47 48", -2, 5, "0 47", "-1 48");
      b.edges(x, "worth 0 0 30 0 " + house + " 46 48", -2, 6, "47 48", "-1 0 45 46 49");
      b.edges(one, "worth 0 0 0 0 " + house + " 0 1", -2, 6, "1", "-1 0 2 48");
    }
    b.edges(one, "worth 0 0 0 0 0 0 1", -2, 4, "-1 0", "-2 1");
  }

  private static void needsPaid() {
    Asked x = full();
    b.says("PAYS, odds 0 .. 100. False, too: as harm(), or other odds.");
    // the way to house 4 and back takes two slots more: its harm is 12, the spare 10
    stateOf(x, "pays", 0, " 4 10 20 100");
    b.edges(x, "pays 0 0 30 0 4 10 20 100", 0, 4, "4 5", "-2 -1 8");
    b.edges(x, "pays 0 0 30 0 4 10 11 100", 0, 5, "5 10", "-1 11 12 48");
    b.edges(x, "pays 0 0 30 0 4 20 46 100", 0, 5, "44 45", "-1 46 47 48");
    b.edges(x, "pays 0 0 30 0 4 20 30 100", 0, 6, "21 30", "-1 0 19 20 49");
    b.edges(x, "pays 0 0 30 0 4 10 20 100", 0, 7, "84 85 99 100", "-100 -1 0 1 83 101 102 200 1000");
    b.says("NEEDS, what 0: all HARM, 1: how many are not counted, 2: the greatest HARM (0 without)."
        + " -2: there is no BEST, as best(), another k, or for another what.");
    for (int what = 0; what < 3; what++) {
      stateOf(x, "needs", -2, " 1 3 " + what);
      b.edges(x, "needs 0 0 30 0 5 3 " + what, -2, 5, "1 2 8 9", "-2 -1 0 10 11");
    }
    b.edges(x, "needs 0 0 30 0 5 9 0", -2, 6, "0 1 2", "-2 -1 3");
    for (int seed : new int[] {0, 1, -1, Integer.MAX_VALUE, Integer.MIN_VALUE}) {
      b.due("any seed: " + seed, x.ask("needs", 0, 0, 30, 0, seed, 9, 1) >= 0, true);
    }
  }

  private static void trades() {
    Asked x = full();
    b.says("DEAL, what 0: f, 1: t, 2: by how much."
        + " NONE: none, there is no BEST, both are one, there is no such HOUSE, or as best().");
    for (int what = 0; what < 3; what++) {
      stateOf(x, "deal", NONE, " 0 1 " + what);
      b.edges(x, "deal 0 0 30 0 0 1 " + what, NONE, 4, "0", "-2 -1 1 2 8");
      b.edges(x, "deal 0 0 30 0 0 1 " + what, NONE, 5, "1 5 7", "-2 -1 0 4 8");
    }
    b.edges(x, "deal 0 0 30 0 0 1 0", NONE, 6, "0 1 2", "-2 -1 3");
    b.says("HALVED, what 0: twice the most GAIN, 1: 1 if it is above, else 0. NONE: as best().");
    stateOf(x, "halved", NONE, " 0");
    stateOf(x, "halved", NONE, " 1");
    b.edges(x, "halved 0 0 30 0 0", NONE, 4, "0 1", "-2 -1 2 3");
    b.says("BUYS: how many (k NONE), the k-th slot, or (k -2) BEST's GAIN with all of them."
        + " -2: there is no BEST, as best(), or there is none such (of any).");
    stateOf(x, "buys", -2, " 1 -1");
    stateOf(x, "buys", -2, " 1 -2");
    b.edges(x, "buys 0 0 30 0 1 -1", -2, 4, "0 1 7", "-2 -1 8");
    b.edges(x, "buys 0 0 30 0 1 -2", -2, 4, "0 1 7", "-2 -1 8");
    long many = x.ask("buys", 0, 0, 30, 0, 7, NONE);
    b.due("house 7 buys", many > 1, true);
    b.edges(x, "buys 0 0 30 0 7 0", -2, 5, "-2 -1 0 1 " + (many - 1), "-4 -3 " + many + " " + (many + 1));
    b.edges(small(), "buys 0 0 0 0 0 -1", -2, 5, "-2 -1", "-3 0 1");
  }

  private static void days() {
    Asked x = full();
    Asked one = small();
    b.says("What 0: YIELD, 1: SPOILED, 2: IDLE, 3: ROAD, 4: LONGEST, 5: DEAREST (NONE), 6: LESSON (NONE), 7: ENOUGH,"
        + " 10 + h: STAY of HOUSE h. -2: there is no BEST, as best(), or for another what.");
    for (int what = 0; what < 18; what++) {
      if (what < 8 || what > 9) {
        stateOf(x, "day", -2, " " + what);
      }
    }
    b.edges(x, "day 0 0 30 0 0", -2, 4, "0 1 2 3 4 5 6 7 10 17", "-3 -2 -1 8 9 18 19 20");
    b.edges(one, "day 0 0 0 0 0", -2, 4, "0 7 10", "-1 8 9 11 17");
    b.says("What 0: HOME (NONE: by none), 1: LAST. -2: there is no BEST, as best(), or for another what.");
    stateOf(x, "home", -2, " 0");
    stateOf(x, "home", -2, " 1");
    b.edges(x, "home 0 0 30 0 0", -2, 4, "0 1", "-2 -1 2 3");
    b.says("WAYS. -2: there is no BEST, or as best().");
    stateOf(x, "ways", -2, "");
    b.says("BOTH: the first one, or (second) the second one. NONE: none. -2: there is no BEST, or as best().");
    stateOf(x, "both", -2, " 0");
    stateOf(x, "both", -2, " 1");
    b.says("EASE, m 1 .. SLOTS: f, or (harm) HARM then."
        + " NONE: by none. -2: there is no BEST, as best(), another m, or there is no such HOUSE.");
    for (int harm = 0; harm < 2; harm++) {
      stateOf(x, "ease", -2, " 4 3 " + harm);
      b.edges(x, "ease 0 0 30 0 4 3 " + harm, -2, 4, "0 7", "-2 -1 8");
      b.edges(x, "ease 0 0 30 0 4 3 " + harm, -2, 5, "1 2 47 48", "-2 -1 0 49 50");
      b.edges(one, "ease 0 0 0 0 0 1 " + harm, -2, 5, "1", "-1 0 2 48");
      b.edges(one, "ease 0 0 0 0 0 1 " + harm, -2, 4, "0", "-1 1");
    }
  }

  private static void errors() {
    Asked x = full();
    Asked one = small();
    b.says("By a ROUND on a VALLEY, what 0: EXPLAINED, 1: UNTOLD, 2: CULPRIT (NONE), 10 + k: MADE of ERROR k"
        + " (NONE: there is no such ROW, HOUSE). -2: there is none such (of any), or for another what.");
    for (int what : new int[] {0, 1, 2, 10}) {
      b.edges(x, "blame 0 0 0 " + what, -2, 0, "0 1", "-1 2");
      b.edges(x, "blame 0 0 0 " + what, -2, 1, "0 1 2", "-1 3");
      b.edges(x, "blame 0 0 0 " + what, -2, 2, "0 1", "-1 2");
    }
    b.edges(x, "blame 0 0 0 0", -2, 3, "0 1 2 10 11 29", "-2 -1 3 4 9 30 31");
    b.edges(one, "blame 0 0 0 0", -2, 3, "0 1 2", "-1 3 9 10 11");
    b.says("LIKELY. NONE: there are no ROUNDS, or there is none such (of either).");
    b.edges(x, "likely 0 0", NONE, 0, "0 1", "-1 2");
    b.edges(x, "likely 0 0", NONE, 1, "0 1", "-1 2");
    b.edges(one, "likely 0 0", NONE, 0, "0", "-1 1");
    b.edges(one, "likely 0 0", NONE, 1, "0", "-1 1");
    b.asks(Asked.of("eye 0 0 0;", null, null, ""), "likely 0 0", NONE);
  }

  private static void nothingTold() {
    b.says("No VALLEYS, ROUNDS, LEDGERS; no images.");
    Asked x = Asked.of(null, null, null, null);
    String[] none = {"valley 0 0", "house 0 0 0", "way 0 0 0 0", "way 0 0 0 1", "play 0 0 0", "stop 0", "cross 0 0",
        "best 0 -1 0 0 1 0", "best 0 -1 0 0 1 1", "best 0 -1 0 0 1 2", "deal 0 -1 0 0 0 1 0", "halved 0 -1 0 0 0",
        "halved 0 -1 0 0 1", "likely 0 0", "feed 0 0 0 0 0"};
    String[] noneSuch = {"leg 0 0 0", "leg 0 -1 0", "where 0 0 0", "row 0 0 0 0 0", "rows 0 0 0 0", "deed 0 0 0",
        "deed 0 -1 0", "owner 0 0 0 0 0", "has 0 0 0 0", "lawful 0 0 -1 0 0", "spot 0 -1 0 0 1 0 0",
        "harm 0 -1 0 0 0 0 1 0", "harm 0 -1 0 0 0 0 1 1", "soon 0 -1 0 0 0 0", "worth 0 -1 0 0 0 0 1",
        "worth 0 -1 0 0 -1 0 1", "needs 0 -1 0 0 1 1 0", "day 0 -1 0 0 0", "error 0 0 0", "error 0 -1 0",
        "blame 0 0 0 0", "home 0 -1 0 0 0", "home 0 -1 0 0 1", "ways 0 -1 0 0", "buys 0 -1 0 0 0 -1",
        "both 0 -1 0 0 0", "both 0 -1 0 0 1", "ease 0 -1 0 0 0 1 0", "text 0 0", "text 3 0"};
    for (int i = 0; i < none.length - 1; i++) {
      b.asks(x, none[i], NONE);
    }
    for (String line : noneSuch) {
      b.asks(x, line, -2);
    }
    b.asks(x, "pays 0 -1 0 0 0 0 1 100", 0);
    for (int k = 0; k < 4; k++) {
      b.asks(x, "count " + k, 0);
      b.asks(x, "again " + k, 0);
    }
    b.asks(x, "fault 0", 0);
    b.asks(x, "fault 1", NONE);
    b.asks(x, "end 0", 0);
    b.asks(x, "end 1", NONE);
    b.asks(x, none[none.length - 1], 20);
  }

  private static void noBest() {
    b.says("In slots of MUSTS, each day, it is at their HOUSE (MUSTS that can't be: there is no BEST).");
    Asked x = Asked.of(NO_BEST, "at 0 0 1;", "own 0 0 0 6;own 0 1 0 6;", "");
    for (String state : new String[] {"0 -1 0 0", "0 0 1 0", "0 0 2 1"}) {
      for (int what = 0; what < 3; what++) {
        b.asks(x, "best " + state + " 1 " + what, NONE);
        b.asks(x, "best " + state + " 7 " + what, NONE);
        b.asks(x, "deal " + state + " 0 1 " + what, NONE);
        b.asks(x, "needs " + state + " 1 9 " + what, -2);
      }
      for (int flag = 0; flag < 2; flag++) {
        b.asks(x, "harm " + state + " 0 1 2 " + flag, -2);
        b.asks(x, "harm " + state + " 1 0 1 " + flag, -2);
        b.asks(x, "both " + state + " " + flag, -2);
        b.asks(x, "ease " + state + " 0 1 " + flag, -2);
        b.asks(x, "home " + state + " " + flag, -2);
        b.asks(x, "halved " + state + " " + flag, NONE);
        b.asks(x, "spot " + state + " 2 " + flag + " 3", -2);
      }
      for (int what = 0; what < 12; what++) {
        b.asks(x, "day " + state + " " + what, -2);
      }
      for (int k = -2; k < 1; k++) {
        b.asks(x, "buys " + state + " 1 " + k, -2);
      }
      b.asks(x, "soon " + state + " 0 0", -2);
      b.asks(x, "worth " + state + " 0 1 2", -2);
      b.asks(x, "worth " + state + " -1 1 2", -2);
      b.asks(x, "pays " + state + " 0 1 2 100", 0);
      b.asks(x, "ways " + state, -2);
    }
  }

  /** What a state is not: behind a deed that can't be. */
  private static void noState() {
    b.says("A STATE of a LEDGER is behind the first n DEEDS, n up to STOP (LEDGER NONE, n 0: nobody OWNS anything).");
    Asked x = Asked.of("slots 4;eye 0 5 1;eye 9 1 1;", "at 0 0 1;", "own 1 0 0 4;own 0 0 3 4;own 0 1 0 1;", "");
    b.asks(x, "stop 0", 1);
    b.edges(x, "owner 0 0 0 0 1", -2, 1, "0 1", "-1 2 3");
    b.edges(x, "has 0 0 0 0", -2, 1, "0 1", "-1 2 3");
    b.edges(x, "lawful 0 0 0 0 0", -2, 3, "0 1", "-1 2 3");
    b.edges(x, "best 0 0 0 0 1 0", NONE, 2, "0 1", "-1 2 3");
    b.edges(x, "spot 0 0 0 0 1 0 0", -2, 2, "0 1", "-1 2 3");
    b.edges(x, "harm 0 0 0 0 0 0 1 0", -2, 2, "0 1", "-1 2 3");
    b.edges(x, "soon 0 0 0 0 0 0", -2, 2, "0 1", "-1 2 3");
    b.edges(x, "worth 0 0 0 0 0 0 1", -2, 2, "0 1", "-1 2 3");
    b.edges(x, "pays 0 0 0 0 1 2 3 100", 0, 2, "0", "-1 2 3");
    b.edges(x, "deal 0 0 1 0 1 0 0", NONE, 2, "1", "-1 0 2 3");
    b.edges(x, "halved 0 0 0 0 0", NONE, 2, "0 1", "-1 2 3");
    b.edges(x, "needs 0 0 0 0 1 1 0", -2, 2, "0 1", "-1 2 3");
    b.edges(x, "day 0 0 0 0 0", -2, 2, "0 1", "-1 2 3");
    b.edges(x, "home 0 0 0 0 0", -2, 2, "0 1", "-1 2 3");
    b.edges(x, "ways 0 0 0 0", -2, 2, "0 1", "-1 2 3");
    b.edges(x, "buys 0 0 0 0 0 -1", -2, 2, "0 1", "-1 2 3");
    b.edges(x, "both 0 0 0 0 0", -2, 2, "0 1", "-1 2 3");
    b.edges(x, "ease 0 0 0 0 0 1 0", -2, 2, "0 1", "-1 2 3");
  }

  public static void main(String[] args) throws Exception {
    b = new Boundary("EdgesTest");
    toldNumbers();
    toldLines();
    rounds();
    ledgers();
    best();
    needsOfOne();
    needsPaid();
    trades();
    days();
    errors();
    nothingTold();
    noBest();
    noState();
    b.close();
  }
}

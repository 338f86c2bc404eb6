/** Terms 2 and 6, promises 6 to 13, 30 to 32: ways, rounds, rows, errors. */
public final class RoundBoundaryTest {
  private static final int NONE = OnePair.NONE;
  /** A way takes two slots. */
  private static final String TWO_SLOTS_FAR = "slots 10;pace 9;eye 0 1 1;eye 18 1 1;";
  /** By "at 1 2 3;" the pair is at house 0 in slot 0, on a way in slot 1, at house 1 in slots 2, 3. */
  private static final String FOUR_SLOTS = "slots 4;pace 9;eye 0 2 1;eye 9 3 1;";
  private static Boundary b;

  private static Asked on(String valley, String round) {
    return Asked.of(valley, round, null, null);
  }

  private static void where(String valley, String round, int... due) {
    Asked x = on(valley, round);
    for (int slot = 0; slot < due.length; slot++) {
      b.asks(x, "where 0 0 " + slot, due[slot]);
    }
  }

  private static void stop(String valley, String round, int due) {
    b.due("stop of " + round + " on " + valley, on(valley, round).ask("play", 0, 0, 0), due);
  }

  private static void ways() {
    b.says("STEPS of two HOUSES: the difference of their HEIGHTS; a WAY of theirs takes STEPS / PACE slots, cut up,"
        + " 1 at least (of one and itself 0).");
    int[] height = {0, 9, 10, 0, 99, 18, 8, 98};
    int[] slots = {0, 1, 2, 1, 11, 2, 1, 11};
    StringBuilder houses = new StringBuilder();
    for (int h : height) {
      houses.append("eye ").append(h).append(" 0 0;");
    }
    Asked x = on("pace 9;" + houses, null);
    Asked slow = on("pace 1;" + houses, null);
    Asked swift = on("pace 99;" + houses, null);
    Asked less = on("pace 98;" + houses, null);
    for (int h = 0; h < height.length; h++) {
      b.asks(x, "way 0 0 " + h + " 0", height[h]);
      b.asks(x, "way 0 " + h + " 0 0", height[h]);
      b.asks(x, "way 0 0 " + h + " 1", slots[h]);
      b.asks(x, "way 0 " + h + " 0 1", slots[h]);
      b.asks(x, "way 0 " + h + " " + h + " 0", 0);
      b.asks(x, "way 0 " + h + " " + h + " 1", 0);
      b.asks(slow, "way 0 0 " + h + " 1", h == 0 ? 0 : Math.max(1, height[h]));
      b.asks(swift, "way 0 0 " + h + " 1", h == 0 ? 0 : 1);
      b.asks(less, "way 0 0 " + h + " 1", h == 0 ? 0 : h == 4 ? 2 : 1);
    }
    b.asks(x, "way 0 4 7 0", 1);
    b.asks(x, "way 0 4 7 1", 1);
  }

  private static void sees() {
    b.says("In a slot a HOUSE SEES, if the pair is there all the slot (COLOUR: and the slot is in LIGHT; TOUCH always"
        + " does): it makes RATE rows of lace that are right; else BLIND rows that are wrong.");
    Asked lit = on("slots 5;light 1 3;colour 0 7 2;", "");
    b.asks(lit, "play 0 0 1", 14);
    b.asks(lit, "play 0 0 2", 6);
    int[] row = {0, 1, 2, 15, 16, 19};
    int[] slot = {0, 0, 1, 2, 3, 4};
    for (int i = 0; i < row.length; i++) {
      b.asks(lit, "row 0 0 0 " + row[i] + " 0", slot[i]);
      b.asks(lit, "row 0 0 0 " + row[i] + " 1", slot[i] == 1 || slot[i] == 2 ? 0 : 1);
    }
    b.asks(lit, "row 0 0 0 20 0", -2);
    String[] lights = {"light 0 1;", "light 4 5;", "light 4 48;", "light 5 6;", "light 47 48;", "light 0 48;", ""};
    int[] right = {7, 7, 7, 0, 0, 35, 35};
    for (int i = 0; i < lights.length; i++) {
      Asked x = on("slots 5;" + lights[i] + "colour 0 7 2;", "");
      b.asks(x, "play 0 0 1", right[i]);
      b.asks(x, "play 0 0 2", 2 * (35 - right[i]) / 7);
    }
    b.asks(on("slots 48;light 47 48;colour 0 1 0;", ""), "play 0 0 1", 1);
    b.asks(on("slots 48;colour 0 1 0;", ""), "play 0 0 1", 48);
    b.asks(on("slots 5;light 1 3;eye 0 7 2;", ""), "play 0 0 1", 35);
    b.asks(on("slots 5;light 1 3;two 0 7 2;", ""), "play 0 0 1", 35);
    Asked touch = on("slots 5;light 1 3;eye 0 1 1;touch 50 4 9;", "");
    b.asks(touch, "play 0 0 1", 25);
    b.asks(touch, "play 0 0 2", 0);
    b.asks(touch, "rows 0 0 1 0", 20);
    Asked way = on(FOUR_SLOTS, "at 1 2 3;");
    b.asks(way, "play 0 0 1", 2 + 6);
    b.asks(way, "play 0 0 2", 3 + 2);
    Asked away = on("slots 4;eye 0 2 0;eye 9 0 9;colour 5 9 0;", "at 1 2 3;");
    b.asks(away, "play 0 0 1", 2);
    b.asks(away, "play 0 0 2", 18);
  }

  private static void cracked() {
    b.says("CRACKED: TWO and COLOUR make half of RATE, cut, in place of it.");
    Asked x = on("slots 12;two 0 9 1;two 0 8 1;two 0 1 1;colour 0 7 1;eye 0 5 1;touch 0 3 1;",
        "at 0 0 1;at 1 2 3;at 2 4 5;at 3 6 7;at 4 8 9;at 5 10 11;");
    b.asks(x, "play 0 0 0", 6);
    b.asks(x, "play 0 0 1", 9 + 8 + 1 + 7 + 5 + 36);
    b.asks(x, "play 0 0 4", 4 + 4 + 0 + 3 + 5 + 36);
    b.asks(x, "play 0 0 2", 55);
    b.asks(x, "play 0 0 5", 55);
    int[] half = {0, 0, 1, 1, 2, 2, 3, 3, 4, 4};
    for (int rate = 0; rate < 10; rate++) {
      String[] kinds = {"touch", "eye", "two", "colour"};
      for (int kind = 0; kind < 4; kind++) {
        Asked one = on("slots 1;" + kinds[kind] + " 0 " + rate + " 0;", "");
        b.asks(one, "play 0 0 4", kind < 2 ? rate : half[rate]);
        b.asks(one, "best 0 -1 0 0 1 2", kind == 0 ? 0 : kind == 1 ? rate : half[rate]);
      }
    }
  }

  private static void legs() {
    b.says("LEG by LEG it goes to the LEG's HOUSE, so that it is there at f, no sooner than behind t of the LEG ahead"
        + " (slot 0 of the first); it stays where it was till it must go; behind the last LEG it stays.");
    stop(TWO_SLOTS_FAR, "at 1 2 3;", 1);
    stop(TWO_SLOTS_FAR, "at 1 1 3;", 0);
    stop(TWO_SLOTS_FAR, "at 1 0 3;", 0);
    stop(TWO_SLOTS_FAR, "at 0 0 1;", 1);
    stop(TWO_SLOTS_FAR + "start 1;", "at 1 0 1;at 0 3 4;", 2);
    stop(TWO_SLOTS_FAR + "start 1;", "at 0 2 3;", 1);
    stop(TWO_SLOTS_FAR + "start 1;", "at 0 1 3;", 0);
    stop(TWO_SLOTS_FAR, "at 1 2 3;at 0 5 6;", 2);
    stop(TWO_SLOTS_FAR, "at 1 2 3;at 0 4 6;", 1);
    stop(TWO_SLOTS_FAR, "at 1 2 3;at 0 5 6;at 1 8 9;", 3);
    stop(TWO_SLOTS_FAR, "at 1 2 3;at 0 5 6;at 1 7 9;", 2);
    stop(TWO_SLOTS_FAR, "at 0 0 3;at 0 3 4;", 2);
    stop(TWO_SLOTS_FAR, "at 0 0 3;at 0 2 4;", 1);
    stop(TWO_SLOTS_FAR, "at 0 5 6;at 0 0 1;", 1);
    where(TWO_SLOTS_FAR, "at 1 2 3;", NONE, NONE, 1, 1, 1, 1, 1, 1, 1, 1);
    where(TWO_SLOTS_FAR, "at 1 5 6;", 0, 0, 0, NONE, NONE, 1, 1, 1, 1, 1);
    where(TWO_SLOTS_FAR, "at 1 2 3;at 0 8 9;", NONE, NONE, 1, 1, 1, 1, NONE, NONE, 0, 0);
    where(TWO_SLOTS_FAR, "at 1 9 10;", 0, 0, 0, 0, 0, 0, 0, NONE, NONE, 1);
    where(TWO_SLOTS_FAR, "at 0 3 4;at 1 9 10;", 0, 0, 0, 0, 0, 0, 0, NONE, NONE, 1);
    where(TWO_SLOTS_FAR + "start 1;", "", 1, 1, 1, 1, 1, 1, 1, 1, 1, 1);
    where("slots 1;eye 0 1 1;", "at 0 0 1;", 0);
    b.says("A LEG can't be, if its HOUSE is not there, t is above SLOTS, or the WAY is too long.");
    stop(TWO_SLOTS_FAR, "at 2 5 6;", 0);
    stop(TWO_SLOTS_FAR, "at 7 5 6;", 0);
    stop(TWO_SLOTS_FAR + "eye 0 0 0;", "at 2 5 6;", 1);
    stop(TWO_SLOTS_FAR, "at 0 9 10;", 1);
    stop(TWO_SLOTS_FAR, "at 0 9 11;", 0);
    stop(TWO_SLOTS_FAR, "at 0 10 11;", 0);
    stop(TWO_SLOTS_FAR, "at 0 0 48;", 0);
    stop(TWO_SLOTS_FAR + "slots 48;", "at 0 0 48;", 1);
    stop("slots 1;eye 0 1 1;", "at 0 0 1;", 1);
    stop("slots 1;eye 0 1 1;", "at 0 0 2;", 0);
    stop("slots 48;pace 1;eye 0 0 0;eye 47 0 0;", "at 1 47 48;", 1);
    stop("slots 48;pace 1;eye 0 0 0;eye 48 0 0;", "at 1 47 48;", 0);
    stop("slots 2;pace 99;eye 0 0 0;eye 0 0 0;", "at 1 0 1;", 0);
    stop("slots 2;pace 99;eye 0 0 0;eye 0 0 0;", "at 1 1 2;", 1);
  }

  private static void stops() {
    b.says("STOP: the first LEG that can't be, else how many there are. (A ROUND is that of the LEGS ahead of STOP.)");
    stop(TWO_SLOTS_FAR, "", 0);
    Asked x = on(TWO_SLOTS_FAR, "at 0 0 1;at 2 2 3;at 1 5 6;");
    b.asks(x, "play 0 0 0", 1);
    b.asks(x, "play 0 0 3", 0);
    b.asks(x, "where 0 0 9", 0);
    b.asks(x, "play 0 0 1", 10);
    b.asks(x, "rows 0 0 1 1", 10);
    Asked first = on(TWO_SLOTS_FAR, "at 1 1 2;at 1 5 6;");
    b.asks(first, "play 0 0 0", 0);
    b.asks(first, "where 0 0 9", 0);
    StringBuilder all = new StringBuilder();
    for (int k = 0; k < 16; k++) {
      all.append("at 0 ").append(k).append(' ').append(k + 1).append(';');
    }
    stop("slots 16;eye 0 0 0;", all.toString(), 16);
    stop("slots 15;eye 0 0 0;", all.toString(), 15);
    stop("slots 1;eye 0 0 0;", all.toString(), 1);
    b.says("RIGHT, WRONG: all rows of all HOUSES. CLIMB: STEPS together.");
    Asked none = on("eye 0 0 0;eye 5 0 0;", "at 1 1 2;");
    b.asks(none, "play 0 0 1", 0);
    b.asks(none, "play 0 0 2", 0);
    b.asks(none, "play 0 0 3", 5);
    Asked most = on("slots 48;" + "eye 0 9 9;".repeat(8), "");
    b.asks(most, "play 0 0 1", 48 * 9);
    b.asks(most, "play 0 0 2", 7 * 48 * 9);
    b.asks(most, "play 0 0 3", 0);
    Asked touch = on("slots 48;" + "touch 0 9 9;".repeat(8), "");
    b.asks(touch, "play 0 0 1", 8 * 48 * 9);
    b.asks(touch, "play 0 0 2", 0);
    Asked far = on("slots 48;pace 99;eye 0 0 0;eye 99 0 0;", "at 1 1 2;at 0 3 4;at 1 5 6;at 1 6 7;at 0 47 48;");
    b.asks(far, "play 0 0 3", 4 * 99);
    b.asks(on("eye 3 0 0;eye 5 0 0;", "at 0 1 2;at 0 3 4;"), "play 0 0 3", 0);
  }

  private static void rows() {
    b.says("ROW n of a HOUSE, from 0 on: in which slot it was made, whether it is wrong"
        + " (rows of a slot one behind the other).");
    Asked x = on(FOUR_SLOTS, "at 1 2 3;");
    int[][] slot = {{0, 0, 1, 2, 3}, {0, 1, 2, 2, 2, 3, 3, 3}};
    int[][] wrong = {{0, 0, 1, 1, 1}, {1, 1, 0, 0, 0, 0, 0, 0}};
    int[] at = {0, NONE, 1, 1};
    for (int h = 0; h < 2; h++) {
      for (int n = 0; n < slot[h].length; n++) {
        b.asks(x, "row 0 0 " + h + " " + n + " 0", slot[h][n]);
        b.asks(x, "row 0 0 " + h + " " + n + " 1", wrong[h][n]);
        b.asks(x, "row 0 0 " + h + " " + n + " 2", at[slot[h][n]]);
      }
      for (int what = 0; what < 3; what++) {
        b.asks(x, "row 0 0 " + h + " " + slot[h].length + " " + what, -2);
        b.asks(x, "row 0 0 " + h + " -1 " + what, -2);
      }
    }
    Asked none = on("slots 4;eye 0 0 0;eye 9 0 1;", "at 1 2 3;");
    b.asks(none, "row 0 0 0 0 0", -2);
    b.asks(none, "row 0 0 1 1 0", 1);
    b.asks(none, "row 0 0 1 2 0", -2);
    Asked most = on("slots 48;eye 0 9 0;touch 0 9 0;", "");
    for (int h = 0; h < 2; h++) {
      b.asks(most, "row 0 0 " + h + " 431 0", 47);
      b.asks(most, "row 0 0 " + h + " 9 0", 1);
      b.asks(most, "row 0 0 " + h + " 8 0", 0);
      b.asks(most, "row 0 0 " + h + " 432 0", -2);
    }
    b.says("Of a HOUSE and a ROUND, what 0: how many rows, 1: how many are wrong, 2: the first of these (NONE),"
        + " 3: slots in which one was made that is wrong (how many).");
    int[][] due = {{5, 3, 2, 3}, {8, 2, 0, 2}};
    for (int what = 0; what < 4; what++) {
      b.asks(x, "rows 0 0 0 " + what, due[0][what]);
      b.asks(x, "rows 0 0 1 " + what, due[1][what]);
      b.asks(none, "rows 0 0 0 " + what, what == 2 ? NONE : 0);
      b.asks(most, "rows 0 0 1 " + what, what == 0 ? 432 : what == 2 ? NONE : 0);
    }
    Asked blind = on("slots 4;eye 0 1 0;eye 9 1 3;", "at 1 2 3;at 0 3 4;");
    b.asks(blind, "rows 0 0 0 2", NONE);
    b.asks(blind, "rows 0 0 0 3", 0);
    b.asks(blind, "rows 0 0 1 1", 6);
    b.asks(blind, "rows 0 0 1 3", 2);
    Asked there = on("slots 4;start 1;eye 0 1 1;eye 9 1 1;", "");
    for (int what = 0; what < 4; what++) {
      b.asks(there, "rows 0 0 1 " + what, what == 0 ? 4 : what == 2 ? NONE : 0);
      b.asks(there, "rows 0 0 0 " + what, what == 2 ? 0 : 4);
    }
    Asked last = on("slots 3;light 0 2;colour 0 4 1;", "");
    b.asks(last, "rows 0 0 0 2", 8);
    b.asks(last, "rows 0 0 0 3", 1);
  }

  private static void blame(String list, int explained, int untold, int culprit) {
    Asked x = Asked.of(FOUR_SLOTS, "at 1 2 3;", null, list);
    b.due("explained of " + list, x.ask("blame", 0, 0, 0, 0), explained);
    b.due("untold of " + list, x.ask("blame", 0, 0, 0, 1), untold);
    b.due("culprit of " + list, x.ask("blame", 0, 0, 0, 2), culprit);
  }

  private static void errors() {
    b.says("By a ROUND on a VALLEY: MADE of an ERROR: the slot of that ROW.");
    Asked x = Asked.of(FOUR_SLOTS, "at 1 2 3;", null, "error 0 0;error 0 4;error 0 5;error 1 7;error 1 8;error 2 0;"
        + "error 7 99;error 1 99;");
    int[] made = {0, 3, NONE, 3, NONE, NONE, NONE, NONE, -2};
    for (int k = 0; k < made.length; k++) {
      b.asks(x, "blame 0 0 0 " + (10 + k), made[k]);
    }
    Asked far = Asked.of("slots 48;eye 0 3 0;", "", null, "error 0 99;");
    b.asks(far, "blame 0 0 0 10", 33);
    Asked full = Asked.of(FOUR_SLOTS, "at 1 2 3;", null, "error 0 3;".repeat(19) + "error 1 7;");
    b.asks(full, "blame 0 0 0 28", 2);
    b.asks(full, "blame 0 0 0 29", 3);
    b.asks(full, "blame 0 0 0 30", -2);
    b.says("EXPLAINED: how many ERRORS are of ROWS that are wrong. UNTOLD: how many ROWS are wrong that no ERROR tells.");
    blame("", 0, 5, NONE);
    blame("error 0 0;error 0 1;error 1 2;", 0, 5, NONE);
    blame("error 0 5;error 2 0;error 1 99;", 0, 5, NONE);
    blame("error 0 3;", 1, 4, 1);
    blame("error 0 3;error 0 3;", 2, 4, 1);
    blame("error 0 3;".repeat(20), 20, 4, 1);
    blame("error 0 2;error 0 3;error 0 4;error 1 0;error 1 1;", 5, 0, 1);
    blame("error 0 2;error 1 2;error 0 3;error 1 3;error 0 2;", 3, 3, 1);
    b.says("CULPRIT: the HOUSE at which the pair was, when most of the EXPLAINED ones were made; of several the least.");
    blame("error 1 0;error 0 3;", 2, 3, 0);
    blame("error 0 3;error 1 0;", 2, 3, 0);
    blame("error 1 0;error 0 3;error 0 4;", 3, 2, 1);
    blame("error 1 0;error 1 0;error 0 3;", 3, 3, 0);
    blame("error 0 2;error 1 1;", 2, 3, NONE);
    blame("error 1 0;error 0 0;error 0 0;error 1 5;error 1 6;", 1, 4, 0);
    Asked lists = Asked.of(FOUR_SLOTS, "at 1 2 3;", null, "error 0 3;error 0 4;error 0 3;").and(3, "error 1 0;");
    for (int turn = 0; turn < 3; turn++) {
      b.asks(lists, "blame 0 0 0 2", 1);
      b.asks(lists, "blame 0 0 1 2", 0);
    }
    Asked last = Asked.of("slots 2;" + "eye 0 0 1;".repeat(8) + "start 7;", "", null, "error 6 0;error 0 1;");
    b.asks(last, "blame 0 0 0 2", 7);
  }

  private static void likely(String list, int due, String... rounds) {
    Asked x = Asked.of(FOUR_SLOTS, null, null, list);
    for (String round : rounds) {
      x.and(1, round);
    }
    b.due("likely of " + String.join(", ", rounds) + " by " + list, x.ask("likely", 0, 0), due);
  }

  private static void likelyRounds() {
    b.says("LIKELY: the ROUND by which most are EXPLAINED; of several that with the fewest UNTOLD, then the least.");
    // by "" 4 rows are wrong, all of house 1; by "at 1 2 3;" 5
    likely("error 1 0;", 0, "", "at 1 2 3;");
    likely("error 1 0;", 1, "at 1 2 3;", "");
    likely("error 1 0;", 0, "", "");
    likely("error 1 0;", 1, "at 1 2 3;", "", "");
    likely("error 1 0;", 2, "at 1 2 3;", "at 1 2 4;", "");
    likely("error 0 3;", 1, "", "at 1 2 3;");
    likely("error 0 3;", 1, "", "at 1 2 3;", "at 1 2 3;");
    likely("error 0 3;error 1 3;error 1 3;", 0, "", "at 1 2 3;");
    // told twice, a row is explained twice, and once less untold
    likely("error 0 3;error 0 3;error 1 2;", 1, "", "at 1 2 3;");
    likely("error 1 2;error 1 2;error 0 2;error 0 3;", 0, "at 1 2 3;", "");
    likely("error 1 2;error 1 2;error 0 2;error 0 3;", 0, "", "at 1 2 3;");
    likely("error 1 2;error 1 3;error 0 2;error 0 2;", 1, "at 1 2 3;", "");
    likely("", 0, "");
    likely("", 0, "", "at 1 2 3;");
    likely("", 2, "at 1 2 3;", "at 1 2 3;", "");
    likely("error 7 99;", 1, "at 1 2 3;", "");
    likely("error 7 99;", 0, "at 1 2 3;");
  }

  public static void main(String[] args) throws Exception {
    b = new Boundary("RoundBoundaryTest");
    ways();
    sees();
    cracked();
    legs();
    stops();
    rows();
    errors();
    likelyRounds();
    b.close();
  }
}

/** Each promise by answers that were worked out by hand: ordinary ones, the edges, wrong numbers. */
public final class PromiseTest {
  private static final int NONE = OnePair.NONE;
  private static final int MOST = Integer.MAX_VALUE;
  private static final int LEAST = Integer.MIN_VALUE;
  private static final Telling T = new Telling();

  // Ways: 0-1 1 slot, 0-2 3, 0-3 1, 1-2 2, 1-3 1, 2-3 3.
  private static final String VALLEY =
      "slots 6;pace 10;eye 0 2 1;two 10 5 2;colour 30 9 3;touch 5 4 0;light 2 5;start 0;";
  // The must can't be: from START a slot is needed.
  private static final String NOWHERE = "slots 6;eye 0 2 1;eye 9 2 1;must 1 0 1;";
  private static final String ALL_OF_0 = "own 0 0 0 6;";

  private static OnePair of(String valley, String ledger) {
    return Telling.told(valley, null, ledger, null);
  }

  private static void due(String what, long got, long want) {
    T.due(what, got, want);
  }

  private static void due(String what, boolean got, boolean want) {
    T.due(what, got, want);
  }

  private static void promise1NewObject() {
    due("1 fault at once", new OnePair().fault(0), 0);
    due("1 place at once", new OnePair().fault(1), NONE);
    OnePair x = new OnePair();
    for (int sort = 0; sort < 4; sort++) {
      due("1 count", x.count(sort), 0);
      due("1 in the place of none", x.text(sort, 0), -2);
    }
    for (int k = 0; k < 3; k++) {
      due("1 no image", x.again(k), false);
    }
    due("1 no fault", x.fault(0), 0);
    due("1 no place", x.fault(1), NONE);
    due("1 empty tape", x.end(1), NONE);
    due("1 no valley", x.valley(0, 0), NONE);
    due("1 no ledger", x.stop(0), NONE);
  }

  private static void promise2Feed() {
    OnePair x = new OnePair();
    for (int i = 1; i <= 30; i++) {
      due("2 feed", x.feed(0x20202020, 0x20202020, 0x20202020, 0x20202020, 0x20202020), 20 * i);
    }
    due("2 full", x.feed(1, 2, 3, 4, 5), NONE);
    due("2 nothing came", x.end(600), 600);
    due("2 a byte less", x.end(599), 599);
    due("2 no room", x.feed(1, 2, 3, 4, 5), NONE);
    due("2 room again", x.end(580), 580);
    due("2 fits", x.feed(0x65796520, 0x37203520, 0x333b2020, 0x20202020, 0x20202020), 600);
    due("2 text of 600", x.text(0, NONE), 0);
    due("2 the highest first", x.house(0, 0, 0) * 100 + x.house(0, 0, 2) * 10 + x.house(0, 0, 3), 753);
    due("2 bytes above 127", x.feed(0x80ff0000, 0, 0, 0, 0), 20);
    due("2 are no text", x.text(0, NONE), NONE);
    due("2 place", x.fault(1), 0);
  }

  private static void promise3End() {
    OnePair x = new OnePair();
    due("3 empty", x.end(0), 0);
    due("3 more than none", x.end(1), NONE);
    Telling.tape(x, "at 0 1 2;at 0 3 4;");
    due("3 below 0", x.end(-1), NONE);
    due("3 least", x.end(LEAST), NONE);
    due("3 more", x.end(19), NONE);
    due("3 as many", x.end(18), 18);
    due("3 first ones", x.end(9), 9);
    due("3 gone", x.end(10), NONE);
    due("3 text", x.text(1, NONE), 0);
    due("3 one leg", x.leg(0, NONE, 0), 1);
    due("3 taken", x.end(1), NONE);
  }

  private static void promise4Text() {
    OnePair x = new OnePair();
    int[] most = {2, 3, 2, 2};
    String[] texts = {"eye 0 1 0;", "at 0 1 2;", "dies 1;", "error 1 2;"};
    for (int sort = 0; sort < 4; sort++) {
      for (int i = 0; i < most[sort]; i++) {
        due("4 further", Telling.tell(x, sort, NONE, texts[sort]), i);
      }
      due("4 too many", Telling.tell(x, sort, NONE, "!"), -2);
      due("4 tape is empty", x.end(1), NONE);
      due("4 no text is read", x.fault(0), 0);
      due("4 no place", x.fault(1), NONE);
      due("4 in the place of one", Telling.tell(x, sort, most[sort] - 1, texts[sort] + texts[sort]), most[sort] - 1);
      due("4 in the place of none", Telling.tell(x, sort, most[sort], texts[sort]), -2);
      due("4 not at -2", Telling.tell(x, sort, -2, texts[sort]), -2);
      due("4 not at most", Telling.tell(x, sort, MOST, texts[sort]), -2);
      due("4 count", x.count(sort), most[sort]);
    }
    due("4 houses", x.valley(0, 5) * 10 + x.valley(1, 5), 12);
    due("4 legs", x.leg(1, NONE, 0) * 10 + x.leg(2, NONE, 0), 12);
    due("4 deeds", x.deed(0, NONE, 0) * 10 + x.deed(1, NONE, 0), 12);
    due("4 errors", x.error(0, NONE, 0) * 10 + x.error(1, NONE, 0), 12);
    due("4 faulty", Telling.tell(x, 0, 1, "eye 0 1 0;start 1;"), NONE);
    due("4 tape is empty behind a fault", x.end(1), NONE);
    due("4 nothing is kept", x.valley(1, 5), 2);
    due("4 no such sort", Telling.tell(x, 4, NONE, "eye"), -2);
    due("4 nor this", Telling.tell(x, -1, NONE, "eye"), -2);
    due("4 fault is gone", x.fault(0), 0);
  }

  private static void promise4LaterOnesStrike() {
    OnePair x = of("slots 3;slots 5;pace 2;pace 99;light 1 2;light 3 48;start 0;start 1;eye 0 0 0;two 1 1 1;", null);
    int[] due = {5, 99, 3, 48, 1, 2, 0};
    for (int what = 0; what < due.length; what++) {
      due("4 later ones strike " + what, x.valley(0, what), due[what]);
    }
    due("4 but for a text of its own", Telling.tell(x, 0, 0, "eye 1 1 1;"), 0);
    int[] first = {24, 9, 0, 48, 0, 1, 0};
    for (int what = 0; what < first.length; what++) {
      due("4 as at first " + what, x.valley(0, what), first[what]);
    }
    Telling.tell(x, 0, 0, "slots 5;pace 2;light 3 4;start 1;eye 0 0 0;eye 0 0 0;must 1 3 4;!");
    due("4 nor of a text with a fault", Telling.tell(x, 0, 0, "eye 1 1 1;"), 0);
    for (int what = 0; what < first.length; what++) {
      due("4 as at first, behind a fault " + what, x.valley(0, what), first[what]);
    }
    Telling.tell(x, 0, 0, "eye 0 0 0;must 0 3 4;must 0 5 6;");
    due("4 musts of a text of its own", Telling.tell(x, 0, 0, "eye 0 0 0;must 0 7 8;"), 0);
    due("4 one must", x.valley(0, 6) * 10 + x.valley(0, 20), 17);
    due("4 glued", Telling.tell(x, 1, NONE, "at1 2 3;at 7\n0\n48;"), 0);
    due("4 glued leg", x.leg(0, 0, 0) * 100 + x.leg(0, 0, 1) * 10 + x.leg(0, 0, 2), 123);
    due("4 leg behind blanks", x.leg(0, 1, 2), 48);
    due("4 zero ahead", Telling.tell(x, 3, NONE, "  error 07 00 ;  "), 0);
    due("4 error", x.error(0, 0, 0) * 10 + x.error(0, 0, 1), 70);
  }

  private static void faultDue(int sort, String text, int fault, int place) {
    OnePair x = new OnePair();
    due("5 " + text, Telling.tell(x, sort, NONE, text), fault == 0 ? 0 : NONE);
    due("5 fault of " + text, x.fault(0), fault);
    due("5 place in " + text, x.fault(1), fault == 0 ? NONE : place);
    due("5 count behind " + text, x.count(sort), fault == 0 ? 1 : 0);
  }

  private static void promise5FaultOfForm() {
    faultDue(0, "slo", 1, 0);
    faultDue(0, "eye 0 1 0; slotss 5;", 1, 11);
    faultDue(0, "Slots 5;", 1, 0);
    faultDue(0, "at 0 1 2;", 1, 0);
    faultDue(1, "slots 5;", 1, 0);
    faultDue(1, "at 0 1", 1, 6);
    faultDue(1, "at 0 1  ", 1, 8);
    faultDue(1, "at 0 1 2", 1, 8);
    faultDue(1, "at 0 1 2 3;", 1, 9);
    faultDue(1, "at 0 1;", 1, 6);
    faultDue(1, "at 0 100 2;", 1, 5);
    faultDue(1, "at 0 001 2;", 1, 5);
    faultDue(1, "at 0\t1 2;", 1, 4);
    faultDue(1, "at -1 1 2;", 1, 3);
    faultDue(1, ";", 1, 0);
    faultDue(1, "at 0 1 2;;", 1, 9);
    faultDue(1, "7", 1, 0);
    faultDue(1, "at at", 1, 3);
    faultDue(1, "at 9 9 9; at x", 1, 13);
    faultDue(2, "own 0 0 0;", 1, 9);
    faultDue(2, "back;", 1, 4);
    faultDue(2, "sell 0 1 0 0 1 2;", 1, 15);
    faultDue(3, "error 1 2 3;", 1, 10);
    faultDue(3, "dies 1;", 1, 0);
    faultDue(0, "eye 0 1 0;\0", 1, 10);
    faultDue(0, "eye 0 1 0;\r", 1, 10);
  }

  private static void promise5FaultOfNumber() {
    String[] bad = {"slots 0", "slots 49", "pace 0", "pace 00", "light 48 49", "start 8", "touch 0 10 0", "eye 0 10 9"};
    int[] place = {6, 6, 5, 5, 6, 6, 8, 6};
    for (int i = 0; i < bad.length; i++) {
      faultDue(0, bad[i] + ";", 2, place[i]);
    }
    faultDue(0, "colour 99 9 10;", 2, 12);
    faultDue(0, "light 5 5;", 2, 8);
    faultDue(0, "light 5 49;", 2, 8);
    faultDue(0, "light 0 0;", 2, 8);
    faultDue(0, "must 8 1 2;", 2, 5);
    faultDue(0, "must 7 2 1;", 2, 9);
    faultDue(1, "at 8 0 1;", 2, 3);
    faultDue(1, "at 0 48 48;", 2, 5);
    faultDue(1, "at 0 47 49;", 2, 8);
    faultDue(1, "at 0 47 48;", 0, NONE);
    faultDue(2, "own 7 7 0 1;", 2, 6);
    faultDue(2, "own 8 0 0 1;", 2, 4);
    faultDue(2, "own 7 6 47 48;", 0, NONE);
    faultDue(2, "pawn 3 3 0 0 1;", 2, 7);
    faultDue(2, "sell 0 8 0 0 1;", 2, 7);
    faultDue(2, "sell 8 8 0 0 1;", 2, 5);
    faultDue(2, "sell 0 1 7 0 1;", 2, 9);
    faultDue(2, "sell 0 1 6 5 4;", 2, 13);
    faultDue(2, "back 30;", 2, 5);
    faultDue(2, "back 29;", 0, NONE);
    faultDue(2, "will 1 1;", 2, 7);
    faultDue(2, "will 0 9;", 2, 7);
    faultDue(2, "dies 8;", 2, 5);
    faultDue(3, "error 8 0;", 2, 6);
    faultDue(3, "error 7 99;", 0, NONE);
    faultDue(3, "error 9 9;error 8 8;", 2, 6);
  }

  private static void promise5FaultOfCount() {
    faultDue(0, "eye 1 1 1;".repeat(8), 0, NONE);
    faultDue(0, "eye 1 1 1;".repeat(8) + " two 1 99 1;", 3, 81);
    faultDue(0, "eye 1 10 1;" + "eye 1 1 1;".repeat(8), 2, 6);
    faultDue(0, "must 0 1 2;".repeat(6) + "eye 0 0 0;", 0, NONE);
    faultDue(0, "must 0 1 2;".repeat(7) + "eye 0 0 0;", 3, 66);
    faultDue(1, "at 0 1 2;".repeat(16), 0, NONE);
    faultDue(1, "at 0 1 2;".repeat(17), 3, 144);
    faultDue(2, "dies 0;".repeat(30), 0, NONE);
    faultDue(2, "dies 0;".repeat(30) + "will 0 0;", 3, 210);
    faultDue(3, "error 0 0;".repeat(20), 0, NONE);
    faultDue(3, "error 0 0;".repeat(21), 3, 200);
    faultDue(3, "error 0 0;".repeat(21) + "error", 1, 215);
    faultDue(0, "", 4, 0);
    faultDue(0, " slots 9; ", 4, 10);
    faultDue(0, "eye 0 0 0;start 1;", 4, 18);
    faultDue(0, "start 1;eye 0 0 0;eye 0 0 0;", 0, NONE);
    faultDue(0, "must 1 0 1;eye 0 0 0;", 4, 21);
    faultDue(0, "must 0 0 25;eye 0 0 0;", 4, 22);
    faultDue(0, "must 0 0 25;eye 0 0 0;slots 25;", 0, NONE);
    faultDue(1, "", 0, NONE);
    faultDue(2, " \n", 0, NONE);
    faultDue(3, "", 0, NONE);
    OnePair x = new OnePair();
    Telling.tell(x, 1, NONE, "at 8 0 1;");
    due("5 another what", x.fault(2), NONE);
    due("5 nor this", x.fault(-1), NONE);
    Telling.tell(x, 1, NONE, "at 7 0 1;");
    due("5 of the latest", x.fault(0), 0);
    due("5 place of the latest", x.fault(1), NONE);
  }

  private static void promise6Valley() {
    OnePair x = of("eye 3 4 5;touch 1 1 1;must 1 2 3;must 0 5 24;", null);
    int[] due = {24, 9, 0, 48, 0, 2, 2};
    for (int what = 0; what < due.length; what++) {
      due("6 what " + what, x.valley(0, what), due[what]);
    }
    due("6 must 0", x.valley(0, 10) * 100 + x.valley(0, 20) * 10 + x.valley(0, 30), 123);
    due("6 must 1's house", x.valley(0, 11), 0);
    due("6 must 1's f", x.valley(0, 21), 5);
    due("6 must 1's t", x.valley(0, 31), 24);
    for (int what : new int[] {-1, 7, 9, 12, 19, 22, 32, 40, 41, 100, LEAST, MOST}) {
      due("6 another what " + what, x.valley(0, what), NONE);
    }
    due("6 none such", x.valley(1, 0), NONE);
    due("6 nor this", x.valley(-1, 0), NONE);
    due("6 nor the least", x.valley(LEAST, 0), NONE);
  }

  private static void promise7House() {
    OnePair x = of("touch 99 9 8;eye 1 2 3;two 4 5 6;colour 7 8 9;", null);
    int[][] due = {{99, 0, 9, 8}, {1, 1, 2, 3}, {4, 2, 5, 6}, {7, 3, 8, 9}};
    for (int h = 0; h < 4; h++) {
      for (int what = 0; what < 4; what++) {
        due("7 house", x.house(0, h, what), due[h][what]);
      }
      due("7 another what", x.house(0, h, 4), NONE);
      due("7 nor this", x.house(0, h, -1), NONE);
    }
    due("7 no house", x.house(0, 4, 0), NONE);
    due("7 no house below", x.house(0, -1, 0), NONE);
    due("7 no valley", x.house(1, 0, 0), NONE);
  }

  private static void promise8Way() {
    OnePair x = of("pace 7;eye 0 1 1;eye 14 1 1;eye 15 1 1;eye 15 1 1;", null);
    due("8 steps", x.way(0, 0, 2, false), 15);
    due("8 steps back", x.way(0, 2, 1, false), 1);
    due("8 even", x.way(0, 0, 1, true), 2);
    due("8 cut up", x.way(0, 2, 0, true), 3);
    due("8 on one height", x.way(0, 2, 3, true), 1);
    due("8 no steps", x.way(0, 2, 3, false), 0);
    due("8 of one and itself", x.way(0, 2, 2, true), 0);
    due("8 no steps of itself", x.way(0, 2, 2, false), 0);
    due("8 no first", x.way(0, 4, 0, true), NONE);
    due("8 no second", x.way(0, 0, -1, false), NONE);
    due("8 no valley", x.way(1, 0, 0, false), NONE);
  }

  private static void promise9Leg() {
    OnePair x = Telling.told(null, "at 3 4 5;at 1 0 48;", null, null);
    due("9 how many", x.leg(0, NONE, 0), 2);
    due("9 leg 0", x.leg(0, 0, 0) * 100 + x.leg(0, 0, 1) * 10 + x.leg(0, 0, 2), 345);
    due("9 leg 1", x.leg(0, 1, 2), 48);
    due("9 none such", x.leg(0, 2, 0), -2);
    due("9 nor this", x.leg(0, -2, 0), -2);
    due("9 another what", x.leg(0, 0, 3), -2);
    due("9 another what of how many", x.leg(0, NONE, 1), -2);
    due("9 no round", x.leg(1, NONE, 0), -2);
    due("9 nor this round", x.leg(-1, 0, 0), -2);
  }

  private static OnePair gone(String round) {
    return Telling.told(VALLEY, round, null, null);
  }

  private static void promise10Play() {
    OnePair x = gone("at 1 1 3;at 2 5 6;");
    int[] due = {2, 34, 32, 30, 28, 32};
    for (int what = 0; what < due.length; what++) {
      due("10 what " + what, x.play(0, 0, what), due[what]);
    }
    due("10 another what", x.play(0, 0, 6), NONE);
    due("10 nor this", x.play(0, 0, -1), NONE);
    due("10 no valley", x.play(1, 0, 0), NONE);
    due("10 no round", x.play(0, 1, 0), NONE);
    due("10 too soon", gone("at 1 0 3;at 0 5 6;").play(0, 0, 0), 0);
    due("10 no house", gone("at 1 1 3;at 4 5 6;").play(0, 0, 0), 1);
    due("10 no slot", gone("at 1 1 7;").play(0, 0, 0), 0);
    due("10 too long", gone("at 1 1 3;at 2 4 6;").play(0, 0, 0), 1);
    due("10 again there", gone("at 0 0 2;at 0 2 3;").play(0, 0, 0), 2);
    due("10 there at once, but behind", gone("at 0 0 3;at 0 2 4;").play(0, 0, 0), 1);
    due("10 nothing behind the stop", gone("at 1 1 3;at 2 4 6;at 1 4 6;").play(0, 0, 3), 10);
    due("10 no legs", gone("").play(0, 0, 1), 36);
  }

  private static void promise11Where() {
    OnePair x = gone("at 1 3 4;at 2 6 7;");
    int[] due = {0, 0, NONE, 1, 1, 1};
    for (int slot = 0; slot < due.length; slot++) {
      due("11 stays till it must go", x.where(0, 0, slot), due[slot]);
    }
    due("11 no slot", x.where(0, 0, 6), -2);
    due("11 nor this", x.where(0, 0, -1), -2);
    due("11 no valley", x.where(2, 0, 0), -2);
    due("11 no round", x.where(0, 1, 0), -2);
    due("11 stays behind", gone("at 1 1 2;").where(0, 0, 5), 1);
  }

  private static void promise12Row() {
    OnePair x = gone("at 1 1 3;at 2 5 6;");
    int[][] due = {{1, 0, 0, 1, NONE}, {1, 2, 1, 0, 1}, {1, 11, 2, 0, 1}, {1, 12, 3, 1, NONE}, {1, 17, 5, 1, 2},
        {2, 17, 5, 1, 2}, {3, 0, 0, 0, NONE}, {3, 23, 5, 0, 2}, {0, 5, 5, 1, 2}};
    for (int[] d : due) {
      for (int what = 0; what < 3; what++) {
        due("12 row " + d[1] + " of " + d[0], x.row(0, 0, d[0], d[1], what), d[2 + what]);
      }
    }
    due("12 no row", x.row(0, 0, 1, 18, 0), -2);
    due("12 no row below", x.row(0, 0, 1, -1, 0), -2);
    due("12 no house", x.row(0, 0, 4, 0, 0), -2);
    due("12 another what", x.row(0, 0, 1, 0, 3), -2);
    due("12 no round", x.row(0, 1, 1, 0, 0), -2);
    due("12 no valley", x.row(-1, 0, 1, 0, 0), -2);
    OnePair lit = gone("at 2 3 6;");
    due("12 in light", lit.row(0, 0, 2, 9, 1), 0);
    due("12 last of the light", lit.row(0, 0, 2, 26, 1), 0);
    due("12 behind the light", lit.row(0, 0, 2, 27, 1), 1);
  }

  private static void promise13Rows() {
    OnePair x = gone("at 1 1 3;at 2 5 6;");
    int[][] due = {{6, 6, 0, 6}, {18, 8, 0, 4}, {18, 18, 0, 6}, {24, 0, NONE, 0}};
    for (int h = 0; h < 4; h++) {
      for (int what = 0; what < 4; what++) {
        due("13 rows " + what + " of " + h, x.rows(0, 0, h, what), due[h][what]);
      }
    }
    due("13 first wrong one", gone("at 0 0 2;at 1 3 4;").rows(0, 0, 0, 2), 4);
    due("13 no slot without rows", Telling.told("eye 0 1 0;eye 9 1 0;", "", null, null).rows(0, 0, 1, 3), 0);
    due("13 another what", x.rows(0, 0, 0, 4), -2);
    due("13 nor this", x.rows(0, 0, 0, -1), -2);
    due("13 no house", x.rows(0, 0, 4, 0), -2);
    due("13 no round", x.rows(0, 1, 0, 0), -2);
    due("13 no valley", x.rows(1, 0, 0, 0), -2);
  }

  private static void promise14Deed() {
    OnePair x = of(null, "own 1 2 3 4;sell 5 6 0 7 8;pawn 1 0 2 3 4;back 29;will 3 4;dies 5;");
    int[][] due = {{0, 1, 2, 3, 4, NONE}, {1, 5, 6, 0, 7, 8}, {2, 1, 0, 2, 3, 4}, {3, 29, NONE, NONE, NONE, NONE},
        {4, 3, 4, NONE, NONE, NONE}, {5, 5, NONE, NONE, NONE, NONE}};
    due("14 how many", x.deed(0, NONE, 0), 6);
    for (int k = 0; k < 6; k++) {
      for (int what = 0; what < 6; what++) {
        due("14 deed", x.deed(0, k, what), due[k][what]);
      }
      due("14 another what", x.deed(0, k, 6), -2);
      due("14 nor this", x.deed(0, k, -1), -2);
    }
    due("14 no deed", x.deed(0, 6, 0), -2);
    due("14 nor this deed", x.deed(0, -2, 0), -2);
    due("14 how many of what", x.deed(0, NONE, 1), -2);
    due("14 no ledger", x.deed(1, NONE, 0), -2);
    due("14 nor NONE", x.deed(NONE, NONE, 0), -2);
  }

  private static void stopDue(String ledger, int stop) {
    due("15 " + ledger, of(null, ledger).stop(0), stop);
  }

  private static void promise15Stop() {
    stopDue("", 0);
    stopDue("own 0 0 0 4;own 1 0 4 5;own 1 0 3 6;", 2);
    stopDue("own 0 0 0 4;own 1 1 0 4;", 2);
    stopDue("sell 0 1 0 0 1;", 0);
    stopDue("own 0 0 0 4;sell 0 1 0 3 5;", 1);
    stopDue("own 0 0 0 4;sell 0 1 0 1 3;sell 0 1 0 1 2;", 2);
    stopDue("own 0 0 0 4;sell 0 1 0 1 3;sell 1 2 0 1 3;", 3);
    stopDue("own 0 0 0 4;pawn 0 1 0 1 3;sell 0 2 0 2 4;", 2);
    stopDue("own 0 0 0 4;pawn 0 1 0 1 3;pawn 1 2 0 1 3;", 2);
    stopDue("own 0 0 0 4;pawn 0 1 0 1 3;back 1;sell 0 2 0 0 4;", 4);
    stopDue("own 0 0 0 4;pawn 0 1 0 1 3;back 1;back 1;", 3);
    stopDue("own 0 0 0 4;back 0;", 1);
    stopDue("own 0 0 0 4;back 1;", 1);
    stopDue("own 0 0 0 4;back 2;pawn 0 1 0 1 3;", 1);
    stopDue("dies 0;own 0 0 0 4;", 1);
    stopDue("dies 0;dies 0;", 1);
    stopDue("dies 0;will 0 1;", 1);
    stopDue("dies 0;will 1 0;", 1);
    stopDue("own 1 0 0 4;dies 0;sell 1 0 0 0 1;", 2);
    stopDue("own 1 0 0 4;dies 0;pawn 1 0 0 0 1;", 2);
    stopDue("own 1 0 0 4;pawn 1 0 0 0 1;dies 0;back 1;", 4);
    stopDue("own 1 0 0 4;pawn 1 0 0 0 1;dies 1;back 1;", 4);
    stopDue("own 0 0 0 4;dies 0;own 1 0 0 4;", 3);
    stopDue("own 0 0 0 4;will 0 1;dies 0;own 2 0 3 4;", 3);
    due("15 none such", of(null, "").stop(1), NONE);
    due("15 nor NONE", of(null, "").stop(NONE), NONE);
  }

  private static void ownerDue(String ledger, int n, int slot, int owner, int holder) {
    OnePair x = of(null, ledger);
    due("16 owner, " + n + " of " + ledger, x.owner(0, n, 3, slot, false), owner);
    due("16 holder, " + n + " of " + ledger, x.owner(0, n, 3, slot, true), holder);
  }

  private static void promise16Owner() {
    ownerDue("own 5 3 2 4;", 0, 2, NONE, NONE);
    ownerDue("own 5 3 2 4;", 1, 1, NONE, NONE);
    ownerDue("own 5 3 2 4;", 1, 2, 5, 5);
    ownerDue("own 5 3 2 4;", 1, 3, 5, 5);
    ownerDue("own 5 3 2 4;", 1, 4, NONE, NONE);
    ownerDue("own 5 3 2 4;", 2, 3, -2, -2);
    ownerDue("own 5 3 2 4;", -1, 3, -2, -2);
    ownerDue("own 5 3 2 4;own 1 3 3 4;", 2, 3, -2, -2);
    ownerDue("own 5 3 2 4;sell 5 0 3 3 4;", 2, 3, 0, 0);
    ownerDue("own 5 3 2 4;sell 5 0 3 3 4;", 2, 2, 5, 5);
    ownerDue("own 5 3 2 4;sell 5 0 3 3 4;", 1, 3, 5, 5);
    ownerDue("own 5 3 2 4;pawn 5 0 3 3 4;", 2, 3, 5, 0);
    ownerDue("own 5 3 2 4;pawn 5 0 3 3 4;back 1;", 3, 3, 5, 5);
    ownerDue("own 5 3 2 4;pawn 5 0 3 2 3;pawn 5 1 3 3 4;back 1;", 4, 3, 5, 1);
    ownerDue("own 5 3 2 4;pawn 5 0 3 2 3;pawn 5 1 3 3 4;back 2;", 4, 2, 5, 0);
    ownerDue("own 5 3 2 4;will 5 1;dies 5;", 3, 3, 1, 1);
    ownerDue("own 5 3 2 4;will 5 1;will 5 2;dies 5;", 4, 3, 2, 2);
    ownerDue("own 5 3 2 4;dies 5;", 2, 3, NONE, NONE);
    ownerDue("own 5 3 2 4;pawn 5 0 3 2 3;will 5 1;dies 5;", 4, 2, 1, 0);
    ownerDue("own 5 3 2 4;pawn 5 0 3 2 3;will 5 1;dies 5;back 1;", 5, 2, 1, 1);
    ownerDue("own 5 3 2 4;pawn 5 0 3 2 3;dies 5;", 3, 2, NONE, NONE);
    ownerDue("own 5 3 2 4;pawn 5 0 3 2 3;dies 0;", 3, 2, 5, 5);
    ownerDue("own 5 3 2 4;pawn 5 0 3 2 3;will 0 1;dies 0;", 4, 2, 5, 1);
    ownerDue("own 5 3 2 4;pawn 5 0 3 2 3;will 0 1;dies 0;back 1;", 5, 2, 5, 5);
    ownerDue("own 5 3 2 4;pawn 5 0 3 2 3;will 5 0;dies 5;sell 0 1 3 2 3;back 1;", 6, 2, 1, 1);
    ownerDue("own 5 3 2 4;will 5 1;will 1 2;dies 1;dies 5;", 5, 3, 2, 2);
    ownerDue("own 5 3 2 4;will 5 1;dies 1;dies 5;", 4, 3, NONE, NONE);
    ownerDue("own 5 3 2 4;will 5 1;will 1 5;dies 1;dies 5;", 5, 3, NONE, NONE);
    ownerDue("own 5 3 2 4;will 5 1;will 1 2;will 2 1;dies 1;dies 2;dies 5;", 7, 3, NONE, NONE);
    OnePair x = of(null, "own 5 6 47 48;");
    due("16 the last of the week", x.owner(0, 1, 6, 47, true), 5);
    due("16 no day", x.owner(0, 1, 7, 47, true), -2);
    due("16 no day below", x.owner(0, 1, -1, 47, true), -2);
    due("16 no slot", x.owner(0, 1, 6, 48, true), -2);
    due("16 no slot below", x.owner(0, 1, 6, -1, true), -2);
    due("16 no ledger", x.owner(1, 0, 0, 0, true), -2);
    due("16 without a ledger", x.owner(NONE, 0, 6, 47, false), NONE);
    due("16 without a ledger no deed", x.owner(NONE, 1, 6, 47, false), -2);
    due("16 no ledger at all", x.owner(-2, 0, 6, 47, false), -2);
  }

  private static void promise17Has() {
    OnePair x = of(null, "own 1 0 0 4;own 1 6 40 48;pawn 1 2 6 40 45;will 1 3;dies 1;");
    int[][] due = {{4, 4, 0, NONE, 0}, {4, 4, 1, 12, 7}, {4, 4, 2, 0, 5}, {5, 5, 1, 0, 0}, {5, 5, 3, 12, 7},
        {5, 5, 2, 0, 5}, {0, 0, 1, 0, 0}};
    for (int[] d : due) {
      if (d[2] != 0) {
        due("17 owns", x.has(0, d[0], d[2], 0), d[3]);
        due("17 holds", x.has(0, d[0], d[2], 1), d[4]);
      }
    }
    due("17 no heir", x.has(0, 3, 1, 2), NONE);
    due("17 heir", x.has(0, 4, 1, 2), 3);
    due("17 heir of the dead", x.has(0, 5, 1, 2), 3);
    due("17 lives", x.has(0, 4, 1, 3), 0);
    due("17 is dead", x.has(0, 5, 1, 3), 1);
    due("17 without a ledger", x.has(NONE, 0, 7, 0), 0);
    due("17 no heir without one", x.has(NONE, 0, 7, 2), NONE);
    due("17 no house", x.has(0, 0, 8, 0), -2);
    due("17 no house below", x.has(0, 0, -1, 0), -2);
    due("17 another what", x.has(0, 0, 0, 4), -2);
    due("17 nor this", x.has(0, 0, 0, -1), -2);
    due("17 no state", x.has(0, 6, 0, 0), -2);
    due("17 no ledger", x.has(1, 0, 0, 0), -2);
  }

  private static void promise18Lawful() {
    OnePair x = Telling.told(VALLEY, "at 1 1 3;at 2 5 6;at 0 5 6;", "own 1 0 1 3;own 3 0 5 6;own 0 1 2 3;", null);
    due("18 by nobody's", x.lawful(0, 0, 0, 0, 0), NONE);
    due("18 by its own", x.lawful(0, 0, 0, 1, 0), NONE);
    due("18 by another's", x.lawful(0, 0, 0, 2, 0), 1);
    due("18 another day", x.lawful(0, 0, 0, 3, 1), 0);
    due("18 a day of nobody", x.lawful(0, 0, 0, 3, 2), NONE);
    due("18 without a ledger", x.lawful(0, 0, NONE, 0, 0), NONE);
    due("18 no state", x.lawful(0, 0, 0, 4, 0), -2);
    due("18 no day", x.lawful(0, 0, 0, 3, 7), -2);
    due("18 no valley", x.lawful(1, 0, 0, 3, 0), -2);
    due("18 no round", x.lawful(0, 1, 0, 3, 0), -2);
    due("18 no ledger", x.lawful(0, 0, 1, 0, 0), -2);
    OnePair stopped = Telling.told(VALLEY, "at 1 1 3;at 1 0 6;", "own 0 0 3 6;", null);
    due("18 not behind the stop", stopped.lawful(0, 0, 0, 1, 0), NONE);
    OnePair touch = Telling.told(VALLEY, "at 3 1 3;", "own 0 0 2 3;", null);
    due("18 touch too, in all slots", touch.lawful(0, 0, 0, 1, 0), 0);
  }

  private static void bestDue(String valley, String ledger, int days, int gain, int climb, int cracked) {
    OnePair x = of(valley, ledger);
    int n = x.stop(0);
    due("19 gain of " + ledger, x.best(0, 0, n, 0, days, 0), gain);
    due("19 climb of " + ledger, x.best(0, 0, n, 0, days, 1), climb);
    due("19 cracked, of " + ledger, x.best(0, 0, n, 0, days, 2), cracked);
  }

  private static void promise19Best() {
    bestDue(VALLEY, "", 1, 25, 10, 12);
    bestDue(VALLEY, ALL_OF_0, 1, 12, 0, 12);
    bestDue(VALLEY, "own 2 0 0 6;", 1, 18, 30, 8);
    bestDue(VALLEY, "own 3 0 0 6;", 1, 0, 0, 0);
    bestDue(VALLEY, "own 2 0 0 6;", 2, 45, 30, 20);
    bestDue(VALLEY, "", 7, 205, 10, 84);
    bestDue("slots 48;" + "touch 99 9 9;".repeat(7) + "colour 0 9 9;", "", 7, 2925, 99, 1300);
    bestDue("slots 1;eye 0 1 0;eye 9 9 0;", "", 1, 1, 0, 1);
    bestDue("slots 1;eye 0 1 0;eye 9 9 0;", "", 2, 9, 9, 9);
    bestDue("slots 2;pace 9;eye 0 1 0;eye 27 9 0;", "", 2, 9, 27, 9);
    bestDue(NOWHERE, "", 1, NONE, NONE, NONE);
    bestDue("slots 4;eye 0 5 0;eye 9 1 0;must 1 2 3;", "", 1, 7, 9, 7);
    bestDue("slots 4;eye 0 5 0;eye 9 1 0;must 1 2 3;", "own 0 0 2 3;", 1, 6, 9, 6);
    bestDue("slots 4;eye 0 5 0;eye 9 1 0;must 1 2 3;must 0 2 3;", "", 1, NONE, NONE, NONE);
    bestDue("slots 4;eye 0 5 0;eye 9 1 0;must 1 2 3;", "", 2, 13, 27, 13);
    OnePair x = of(VALLEY, "own 2 6 0 6;");
    due("19 sunday", x.best(0, 0, 1, 6, 1, 0), 18);
    due("19 the week goes round", x.best(0, 0, 1, 6, 2, 0), 45);
    due("19 monday", x.best(0, 0, 1, 0, 1, 0), 25);
    due("19 no ledger told", x.best(0, NONE, 0, 0, 1, 0), 25);
    int[][] wrong = {{1, 0, 0, 0, 1, 0}, {0, 1, 0, 0, 1, 0}, {0, 0, 2, 0, 1, 0}, {0, 0, -1, 0, 1, 0},
        {0, 0, 0, 7, 1, 0}, {0, 0, 0, -1, 1, 0}, {0, 0, 0, 0, 0, 0}, {0, 0, 0, 0, 8, 0}, {0, 0, 0, 0, 1, 3},
        {0, 0, 0, 0, 1, -1}, {0, NONE, 1, 0, 1, 0}};
    for (int[] w : wrong) {
      due("19 none such", x.best(w[0], w[1], w[2], w[3], w[4], w[5]), NONE);
    }
  }

  private static void promise20Spot() {
    OnePair x = of(VALLEY, "own 2 0 0 6;");
    for (int slot = 0; slot < 6; slot++) {
      due("20 spot", x.spot(0, NONE, 0, 0, 1, 0, slot), slot == 0 ? NONE : 1);
      due("20 by the light", x.spot(0, 0, 1, 0, 2, 0, slot), slot < 3 ? NONE : 2);
      due("20 stays", x.spot(0, 0, 1, 0, 2, 1, slot), 2);
    }
    OnePair even = of("slots 4;pace 9;eye 0 0 0;eye 9 3 0;eye 9 3 0;", null);
    due("20 to the least house", even.spot(0, NONE, 0, 0, 1, 0, 1), 1);
    OnePair free = of("slots 3;eye 0 0 0;eye 0 0 0;", null);
    due("20 stays where it can", free.spot(0, NONE, 0, 0, 1, 0, 2), 0);
    OnePair late = of("slots 4;eye 0 1 0;eye 0 1 0;must 1 3 4;", null);
    due("20 stays as long as it can", late.spot(0, NONE, 0, 0, 1, 0, 1), 0);
    due("20 goes then", late.spot(0, NONE, 0, 0, 1, 0, 2), NONE);
    due("20 and is there", late.spot(0, NONE, 0, 0, 1, 0, 3), 1);
    due("20 no slot", x.spot(0, NONE, 0, 0, 1, 0, 6), -2);
    due("20 no slot below", x.spot(0, NONE, 0, 0, 1, 0, -1), -2);
    due("20 no such day", x.spot(0, NONE, 0, 0, 1, 1, 0), -2);
    due("20 no day below", x.spot(0, NONE, 0, 0, 1, -1, 0), -2);
    due("20 no days", x.spot(0, NONE, 0, 0, 0, 0, 0), -2);
    due("20 no state", x.spot(0, 0, 2, 0, 1, 0, 0), -2);
    due("20 no valley", x.spot(1, 0, 0, 0, 1, 0, 0), -2);
    due("20 no best", of(NOWHERE, null).spot(0, NONE, 0, 0, 1, 0, 0), -2);
  }

  private static int harm(OnePair x, int house, int f, int t) {
    return x.harm(0, NONE, 0, 0, house, f, t, false);
  }

  private static void promise21Harm() {
    OnePair x = of(VALLEY, ALL_OF_0);
    due("21 at the start", harm(x, 0, 0, 1), 3);
    due("21 by light", harm(x, 2, 3, 5), 7);
    due("21 by touch", harm(x, 3, 2, 3), 13);
    due("21 where it is", harm(x, 1, 1, 6), 0);
    due("21 none with it", harm(x, 1, 0, 1), -2);
    due("21 lender all the same", x.harm(0, NONE, 0, 0, 1, 0, 1, true), NONE);
    due("21 lender", x.harm(0, NONE, 0, 0, 2, 2, 6, true), 1);
    due("21 by a state", x.harm(0, 0, 1, 0, 1, 1, 2, false), 6);
    due("21 no house", harm(x, 4, 0, 1), -2);
    due("21 no house below", harm(x, NONE, 0, 1), -2);
    due("21 no slots", harm(x, 0, 1, 1), -2);
    due("21 none below", harm(x, 0, -1, 1), -2);
    due("21 none above", harm(x, 0, 5, 7), -2);
    due("21 lender of no slots", x.harm(0, NONE, 0, 0, 0, 6, 7, true), -2);
    due("21 lender by no house", x.harm(0, NONE, 0, 0, 4, 0, 1, true), -2);
    due("21 no day", x.harm(0, NONE, 0, 7, 0, 0, 1, false), -2);
    due("21 no best", harm(of(NOWHERE, null), 0, 1, 2), -2);
    due("21 no lender", of(NOWHERE, null).harm(0, NONE, 0, 0, 0, 1, 2, true), -2);
  }

  private static void promise22Soon() {
    OnePair x = of(VALLEY, "own 2 0 0 6;");
    due("22 from a way", x.soon(0, NONE, 0, 0, 2, 0), 3);
    due("22 where a way ends", x.soon(0, NONE, 0, 0, 1, 0), 1);
    due("22 beyond the last", x.soon(0, NONE, 0, 0, 2, 4), 6);
    due("22 it is there", x.soon(0, NONE, 0, 0, 1, 3), 3);
    due("22 of two ways the first", x.soon(0, 0, 1, 0, 3, 0), 2);
    due("22 of two ways the second", x.soon(0, 0, 1, 0, 1, 1), 5);
    due("22 no house", x.soon(0, NONE, 0, 0, 4, 0), -2);
    due("22 no slot", x.soon(0, NONE, 0, 0, 0, 6), -2);
    due("22 no slot below", x.soon(0, NONE, 0, 0, 0, -1), -2);
    due("22 no state", x.soon(0, 0, 2, 0, 0, 0), -2);
    due("22 no best", of(NOWHERE, null).soon(0, NONE, 0, 0, 0, 0), -2);
  }

  private static void promise23Worth() {
    OnePair x = of(VALLEY, ALL_OF_0);
    due("23 worth", x.worth(0, NONE, 0, 0, 1, 1, 2), 3);
    due("23 worth nothing", x.worth(0, NONE, 0, 0, 0, 0, 6), 0);
    due("23 worth all day", x.worth(0, NONE, 0, 0, 1, 0, 6), 7);
    due("23 spare", x.worth(0, NONE, 0, 0, NONE, 1, 2), 3);
    due("23 spare on a way", x.worth(0, NONE, 0, 0, NONE, 0, 1), 0);
    due("23 spare at the end", x.worth(0, NONE, 0, 0, NONE, 5, 6), 5);
    due("23 spare of all", x.worth(0, NONE, 0, 0, NONE, 0, 6), 25);
    due("23 by a state", x.worth(0, 0, 1, 0, 0, 2, 4), 4);
    due("23 no house", x.worth(0, NONE, 0, 0, 4, 0, 1), -2);
    due("23 nor this", x.worth(0, NONE, 0, 0, -2, 0, 1), -2);
    due("23 no slots", x.worth(0, NONE, 0, 0, 0, 2, 2), -2);
    due("23 not these", x.worth(0, NONE, 0, 0, NONE, 0, 7), -2);
    due("23 no state", x.worth(0, NONE, 1, 0, 0, 0, 1), -2);
    due("23 no best", of(NOWHERE, null).worth(0, NONE, 0, 0, 0, 0, 1), -2);
  }

  private static void promise24Pays() {
    OnePair x = of(VALLEY, null);
    due("24 pays", x.pays(0, NONE, 0, 0, 0, 0, 1, 1), true);
    due("24 by no odds", x.pays(0, NONE, 0, 0, 0, 0, 1, 0), false);
    due("24 too dear", x.pays(0, NONE, 0, 0, 2, 3, 5, 100), false);
    // a need of the far one in the last slot: harm 15 of 20, spare 5: 33 of 100 is below, 34 above; even at 5 of 15
    OnePair even = of("slots 4;pace 10;eye 0 5 0;eye 30 5 0;", null);
    due("24 harm", even.harm(0, NONE, 0, 0, 1, 3, 4, false), 15);
    due("24 spare", even.worth(0, NONE, 0, 0, NONE, 3, 4), 5);
    due("24 below", even.pays(0, NONE, 0, 0, 1, 3, 4, 33), false);
    due("24 above", even.pays(0, NONE, 0, 0, 1, 3, 4, 34), true);
    OnePair fresh = of("slots 4;pace 10;eye 0 5 0;eye 30 5 0;", "own 1 1 0 4;");
    due("24 no harm, no call ahead", fresh.pays(0, NONE, 0, 0, 0, 3, 4, 100), false);
    due("24 another day ahead", fresh.pays(0, 0, 1, 1, 0, 0, 4, 100), false);
    due("24 below, behind another day", fresh.pays(0, NONE, 0, 0, 1, 3, 4, 33), false);
    due("24 above, behind another day", fresh.pays(0, NONE, 0, 0, 1, 3, 4, 34), true);
    OnePair half = of("slots 3;pace 10;eye 0 5 0;eye 20 5 0;", null);
    due("24 as much is not above", half.pays(0, NONE, 0, 0, 1, 2, 3, 50), false);
    due("24 a bit more is", half.pays(0, NONE, 0, 0, 1, 2, 3, 51), true);
    due("24 all odds", half.pays(0, NONE, 0, 0, 1, 2, 3, 100), true);
    due("24 other odds", half.pays(0, NONE, 0, 0, 1, 2, 3, 101), false);
    due("24 odds below", half.pays(0, NONE, 0, 0, 1, 2, 3, -1), false);
    due("24 no house", half.pays(0, NONE, 0, 0, 2, 2, 3, 100), false);
    due("24 nor NONE", half.pays(0, NONE, 0, 0, NONE, 2, 3, 100), false);
    due("24 no slots", half.pays(0, NONE, 0, 0, 1, 2, 4, 100), false);
    due("24 none with it", half.pays(0, NONE, 0, 0, 1, 0, 1, 100), false);
    due("24 no day", half.pays(0, NONE, 0, 7, 1, 2, 3, 100), false);
    due("24 no best", of(NOWHERE, null).pays(0, NONE, 0, 0, 0, 1, 2, 100), false);
  }

  private static void dealDue(OnePair x, int n, int one, int two, int f, int t, int more) {
    due("25 f", x.deal(0, 0, n, 0, one, two, 0), f);
    due("25 t", x.deal(0, 0, n, 0, one, two, 1), t);
    due("25 by how much", x.deal(0, 0, n, 0, one, two, 2), more);
  }

  private static void promise25Deal() {
    OnePair x = of(VALLEY, ALL_OF_0);
    dealDue(x, 1, 0, 1, 0, 6, 13);
    dealDue(x, 1, 0, 2, 0, 5, 6);
    dealDue(x, 1, 0, 3, NONE, NONE, NONE);
    dealDue(x, 1, 1, 0, NONE, NONE, NONE);
    dealDue(x, 0, 0, 1, NONE, NONE, NONE);
    dealDue(x, 1, 0, 0, NONE, NONE, NONE);
    dealDue(x, 1, 0, 4, NONE, NONE, NONE);
    dealDue(x, 1, -1, 1, NONE, NONE, NONE);
    dealDue(x, 2, 0, 1, NONE, NONE, NONE);
    OnePair parts = of(VALLEY, "own 0 0 0 3;own 3 0 3 4;own 0 0 4 6;");
    dealDue(parts, 3, 0, 1, 4, 6, 6);
    dealDue(parts, 3, 3, 0, 3, 4, 2);
    dealDue(of("slots 1;eye 0 1 0;eye 9 9 0;", "own 1 0 0 1;"), 1, 1, 0, 0, 1, 1);
    String musts = "slots 5;eye 0 5 0;eye 18 5 0;must 1 2 3;";
    dealDue(of(musts, "own 0 0 0 5;"), 1, 0, 1, 0, 5, 15);
    dealDue(of(musts + "must 0 1 2;", "own 0 0 0 5;"), 1, 0, 1, NONE, NONE, NONE);
    dealDue(of("slots 4;eye 0 1 0;eye 18 5 0;must 0 1 2;", "own 0 0 0 4;"), 1, 0, 1, NONE, NONE, NONE);
    dealDue(of(VALLEY, "own 7 0 0 6;"), 1, 7, 1, NONE, NONE, NONE);
    due("25 another what", x.deal(0, 0, 1, 0, 0, 1, 3), NONE);
    due("25 nor this", x.deal(0, 0, 1, 0, 0, 1, -1), NONE);
    due("25 another day", x.deal(0, 0, 1, 1, 0, 1, 0), NONE);
    due("25 no best", of(NOWHERE, "own 0 0 0 6;").deal(0, 0, 1, 0, 0, 1, 0), NONE);
  }

  private static void promise26Halved() {
    OnePair x = of(VALLEY, ALL_OF_0);
    due("26 twice", x.halved(0, 0, 0, 0, 0), 24);
    due("26 not above", x.halved(0, 0, 0, 0, 1), 0);
    due("26 by a state", x.halved(0, 0, 1, 0, 0), 24);
    due("26 above", x.halved(0, 0, 1, 0, 1), 1);
    OnePair even = of("slots 2;eye 0 1 0;two 9 4 0;must 1 1 2;", null);
    due("26 without musts", even.halved(0, NONE, 0, 0, 0), 4);
    due("26 as much is not above", even.halved(0, NONE, 0, 0, 1), 0);
    due("26 no best", of(NOWHERE, null).halved(0, NONE, 0, 0, 0), NONE);
    due("26 no best to be above", of(NOWHERE, null).halved(0, NONE, 0, 0, 1), NONE);
    OnePair bound = of("slots 4;eye 0 2 0;eye 9 3 0;must 0 3 4;", null);
    due("26 without a must that can be", bound.halved(0, NONE, 0, 0, 0), 18);
    due("26 another what", x.halved(0, 0, 0, 0, 2), NONE);
    due("26 nor this", x.halved(0, 0, 0, 0, -1), NONE);
    due("26 no state", x.halved(0, 0, 2, 0, 0), NONE);
    due("26 no day", x.halved(0, 0, 0, 7, 0), NONE);
    due("26 no valley", x.halved(1, 0, 0, 0, 0), NONE);
  }

  private static void promise27Needs() {
    OnePair x = of(VALLEY, null);
    // what is drawn is worked out here, the harm of each is promise 21's
    int[] x16 = new int[15];
    int now = 1;
    for (int i = 0; i < x16.length; i++) {
      now = now * 1103515245 + 12345;
      x16[i] = now >>> 16;
    }
    due("27 first draw", x16[0], 16838);
    due("27 second draw", x16[1], 38526);
    due("27 third draw", x16[2], 10113);
    int all = 0;
    int not = 0;
    int greatest = 0;
    for (int k = 1; k <= 5; k++) {
      int f = x16[3 * k - 2] % 6;
      int harm = harm(x, x16[3 * k - 3] % 4, f, Math.min(6, f + x16[3 * k - 1] % 3 + 1));
      all += Math.max(0, harm);
      not += harm == -2 ? 1 : 0;
      greatest = Math.max(greatest, harm);
      due("27 all", x.needs(0, NONE, 0, 0, 1, k, 0), all);
      due("27 all, no call ahead", of(VALLEY, null).needs(0, NONE, 0, 0, 1, k, 0), all);
      due("27 not counted", x.needs(0, NONE, 0, 0, 1, k, 1), not);
      due("27 the greatest", x.needs(0, NONE, 0, 0, 1, k, 2), greatest);
    }
    OnePair alone = of("slots 1;eye 0 1 0;", null);
    due("27 at most to the end", alone.needs(0, NONE, 0, 0, -7, 9, 1), 0);
    due("27 no harm", alone.needs(0, NONE, 0, 0, -7, 9, 2), 0);
    due("27 no needs", x.needs(0, NONE, 0, 0, 1, 0, 0), -2);
    due("27 ten", x.needs(0, NONE, 0, 0, 1, 10, 0), -2);
    due("27 another what", x.needs(0, NONE, 0, 0, 1, 1, 3), -2);
    due("27 nor this", x.needs(0, NONE, 0, 0, 1, 1, -1), -2);
    due("27 no day", x.needs(0, NONE, 0, 9, 1, 1, 0), -2);
    due("27 no best", of(NOWHERE, null).needs(0, NONE, 0, 0, 1, 1, 0), -2);
  }

  private static void promise28Day() {
    OnePair x = of(VALLEY, "own 3 0 0 6;");
    int[] due = {49, 26, 0, 1, 5, 2, 2, 30, NONE, NONE, 0, 5, 0, 0};
    int[] idle = {24, 36, 6, 0, 6, NONE, 2, 1, NONE, NONE, 6, 0, 0, 0};
    for (int what = 0; what < due.length; what++) {
      if (what != 8 && what != 9) {
        due("28 what " + what, x.day(0, NONE, 0, 0, what), due[what]);
        due("28 held, what " + what, x.day(0, 0, 1, 0, what), idle[what]);
      }
    }
    OnePair none = of("slots 2;touch 0 3 9;", null);
    int[] touch = {6, 0, 2, 0, 2, NONE, NONE, 1};
    for (int what = 0; what < touch.length; what++) {
      due("28 by touch " + what, none.day(0, NONE, 0, 0, what), touch[what]);
    }
    due("28 a must is idle", of("slots 3;eye 0 5 0;eye 9 1 0;must 1 1 3;", "own 0 0 0 3;").day(0, 0, 1, 0, 2), 2);
    for (int what : new int[] {-1, 8, 9, 14, 17, LEAST, MOST}) {
      due("28 another what " + what, x.day(0, NONE, 0, 0, what), -2);
    }
    due("28 no day", x.day(0, NONE, 0, 7, 0), -2);
    due("28 no valley", x.day(1, NONE, 0, 0, 0), -2);
    due("28 no best", of(NOWHERE, null).day(0, NONE, 0, 0, 0), -2);
  }

  private static void promise29Cross() {
    OnePair x = of(null, "own 0 0 0 4;own 1 6 46 48;own 1 0 3 9;own 1 1 0 9;");
    Telling.tell(x, 2, NONE, "own 0 0 0 4;pawn 0 2 0 1 3;own 5 3 7 8;");
    due("29 unlike", x.cross(0, 1), 5);
    due("29 the other way", x.cross(1, 0), 5);
    due("29 one and itself", x.cross(1, 1), 0);
    due("29 no second", x.cross(0, 2), NONE);
    due("29 no first", x.cross(NONE, 0), NONE);
  }

  private static void promise30Error() {
    OnePair x = Telling.told(null, null, null, "error 7 99;error 0 3;");
    due("30 how many", x.error(0, NONE, 0), 2);
    due("30 house", x.error(0, 0, 0), 7);
    due("30 row", x.error(0, 0, 1), 99);
    due("30 second", x.error(0, 1, 1), 3);
    due("30 none such", x.error(0, 2, 0), -2);
    due("30 another what", x.error(0, 0, 2), -2);
    due("30 how many of what", x.error(0, NONE, 1), -2);
    due("30 no list", x.error(1, NONE, 0), -2);
    due("30 nor this", x.error(-1, 0, 0), -2);
  }

  private static OnePair blamed(String list) {
    return Telling.told(VALLEY, "at 1 1 3;at 2 5 6;", null, list);
  }

  private static void promise31Blame() {
    OnePair x = blamed("error 1 2;error 1 0;error 2 17;error 2 17;error 0 5;error 5 0;error 3 0;");
    due("31 explained", x.blame(0, 0, 0, 0), 4);
    due("31 untold", x.blame(0, 0, 0, 1), 29);
    due("31 culprit", x.blame(0, 0, 0, 2), 2);
    int[] made = {1, 0, 5, 5, 5, NONE, 0};
    for (int k = 0; k < made.length; k++) {
      due("31 made", x.blame(0, 0, 0, 10 + k), made[k]);
    }
    due("31 no error", x.blame(0, 0, 0, 17), -2);
    due("31 another what", x.blame(0, 0, 0, 3), -2);
    due("31 nor this", x.blame(0, 0, 0, -1), -2);
    due("31 no valley", x.blame(1, 0, 0, 0), -2);
    due("31 no round", x.blame(0, 1, 0, 0), -2);
    due("31 no list", x.blame(0, 0, 1, 0), -2);
    due("31 no culprit on a way", blamed("error 1 0;error 1 1;").blame(0, 0, 0, 2), NONE);
    due("31 no row", blamed("error 1 18;").blame(0, 0, 0, 10), NONE);
    due("31 of several the least", blamed("error 0 5;error 0 1;").blame(0, 0, 0, 2), 1);
    due("31 none told", blamed("").blame(0, 0, 0, 1), 32);
  }

  private static void promise32Likely() {
    OnePair x = Telling.told(VALLEY, "", null, "error 1 0;error 0 0;");
    due("32 the one round", x.likely(0, 0), 0);
    Telling.tell(x, 1, NONE, "at 1 1 2;");
    due("32 most are explained", x.likely(0, 0), 1);
    Telling.tell(x, 1, NONE, "at 1 1 2;at 0 3 4;");
    // wrong are 6 + 2 + 18 rows by round 1, 3 + 10 + 18 by round 2
    due("32 fewest untold", x.likely(0, 0), 1);
    due("32 untold of 1", x.blame(0, 1, 0, 1), 24);
    due("32 untold of 2", x.blame(0, 2, 0, 1), 29);
    Telling.tell(x, 1, 0, "at 1 1 2;");
    due("32 the least", x.likely(0, 0), 0);
    Telling.tell(x, 1, 1, "at 1 1 2;at 0 3 4;");
    Telling.tell(x, 1, 0, "at 1 1 2;at 0 3 4;");
    Telling.tell(x, 1, 2, "at 1 1 2;");
    due("32 the last has fewest", x.likely(0, 0), 2);
    // rows 0 and 1 of house 0 are wrong by both; told twice, row 0 leaves one more untold
    Telling.tell(x, 0, 0, "slots 2;eye 0 1 1;eye 0 1 1;eye 0 1 0;");
    Telling.tell(x, 3, 0, "error 0 0;error 0 0;error 1 0;error 1 1;");
    Telling.tell(x, 1, 0, "at 1 1 2;");
    Telling.tell(x, 1, 1, "at 2 1 2;");
    Telling.tell(x, 1, 2, "");
    due("32 explained of 0", x.blame(0, 0, 0, 0), 3);
    due("32 explained of 1", x.blame(0, 1, 0, 0), 4);
    due("32 explained of 2", x.blame(0, 2, 0, 0), 2);
    due("32 untold is of rows", x.blame(0, 1, 0, 1), 1);
    due("32 by most errors", x.likely(0, 0), 1);
    // both explain 2: round 0 two rows of 4 that are wrong, round 1 one row, told twice, of 3
    OnePair twice = Telling.told("slots 3;eye 0 0 0;eye 0 1 1;eye 0 9 1;start 1;", "at 2 1 2;", null,
        "error 2 1;error 2 1;error 1 0;error 1 1;");
    Telling.tell(twice, 1, NONE, "");
    due("32 told once and twice", twice.likely(0, 0), 0);
    Telling.tell(twice, 3, 0, "error 2 1;error 2 1;error 2 1;error 1 0;error 1 1;");
    due("32 told thrice", twice.likely(0, 0), 1);
    due("32 no valley", x.likely(1, 0), NONE);
    due("32 no list", x.likely(0, 1), NONE);
    due("32 no rounds", Telling.told(VALLEY, null, null, "").likely(0, 0), NONE);
  }

  private static void promise33Home() {
    OnePair x = of(VALLEY, null);
    due("33 home", x.home(0, NONE, 0, 0, 0), 20);
    due("33 last", x.home(0, NONE, 0, 0, 1), 1);
    OnePair away = of("slots 3;pace 9;eye 0 1 0;eye 9 1 0;must 1 2 3;", null);
    due("33 by none", away.home(0, NONE, 0, 0, 0), NONE);
    due("33 last away", away.home(0, NONE, 0, 0, 1), 1);
    due("33 another what", x.home(0, NONE, 0, 0, 2), -2);
    due("33 nor this", x.home(0, NONE, 0, 0, -1), -2);
    due("33 no day", x.home(0, NONE, 0, 7, 0), -2);
    due("33 no state", x.home(0, NONE, 1, 0, 0), -2);
    due("33 no best", of(NOWHERE, null).home(0, NONE, 0, 0, 1), -2);
  }

  private static void promise34Ways() {
    OnePair x = of(VALLEY, "own 2 0 0 6;");
    due("34 one", x.ways(0, NONE, 0, 0), 1);
    due("34 by a house between", x.ways(0, 0, 1, 0), 2);
    // two houses on one height and nothing to gain: f(0) is 1, f(n) is 2 f(n - 1)
    due("34 all ways", of("slots 5;eye 0 0 0;eye 0 0 0;", null).ways(0, NONE, 0, 0), 32);
    due("34 two to the 39", of("slots 39;eye 0 0 0;eye 0 0 0;", null).ways(0, NONE, 0, 0), 549755813888L);
    due("34 at most", of("slots 40;eye 0 0 0;eye 0 0 0;", null).ways(0, NONE, 0, 0), 1000000000000L);
    String eight = "slots 48;" + "eye 0 0 0;".repeat(8);
    due("34 at most by eight", of(eight, null).ways(0, NONE, 0, 0), 1000000000000L);
    due("34 no day", x.ways(0, NONE, 0, 7), -2);
    due("34 no valley", x.ways(-1, NONE, 0, 0), -2);
    due("34 no best", of(NOWHERE, null).ways(0, NONE, 0, 0), -2);
  }

  private static void promise35Buys() {
    OnePair x = of(VALLEY, ALL_OF_0);
    due("35 how many", x.buys(0, 0, 1, 0, 1, NONE), 5);
    due("35 gain", x.buys(0, 0, 1, 0, 1, -2), 25);
    for (int k = 0; k < 5; k++) {
      due("35 slot", x.buys(0, 0, 1, 0, 1, k), 5 - k);
    }
    due("35 no more", x.buys(0, 0, 1, 0, 1, 5), -2);
    due("35 nothing is kept", x.owner(0, 1, 0, 5, true), 0);
    due("35 nobody's is not bought", x.buys(0, 0, 0, 0, 1, NONE), 0);
    due("35 then as it is", x.buys(0, 0, 0, 0, 1, -2), 25);
    due("35 nor its own", x.buys(0, 0, 1, 0, 0, NONE), 0);
    OnePair far = of(VALLEY, "own 7 0 0 6;");
    due("35 of one that is not in the valley", far.buys(0, 0, 1, 0, 0, NONE), 6);
    due("35 the least", far.buys(0, 0, 1, 0, 0, 0), 0);
    String all = "own 7 0 0 4;";
    OnePair must = of("slots 4;eye 0 1 0;eye 18 5 0;must 1 2 3;", all);
    due("35 a way up to a must", must.buys(0, 0, 1, 0, 1, NONE), 2);
    due("35 gain of both slots", must.buys(0, 0, 1, 0, 1, -2), 10);
    OnePair over = of("slots 4;eye 0 0 0;eye 18 5 0;must 0 1 2;", all);
    due("35 no way over a must", over.buys(0, 0, 1, 0, 1, NONE), 0);
    OnePair other = of("slots 3;eye 0 0 0;eye 9 5 0;must 0 1 2;", all);
    due("35 not in another's must", other.buys(0, 0, 1, 0, 1, NONE), 0);
    due("35 another k", x.buys(0, 0, 1, 0, 1, -3), -2);
    due("35 no house", x.buys(0, 0, 1, 0, 4, NONE), -2);
    due("35 no state", x.buys(0, 0, 2, 0, 1, NONE), -2);
    due("35 no best", of(NOWHERE, null).buys(0, NONE, 0, 0, 0, NONE), -2);
  }

  private static void promise36Both() {
    OnePair x = of(VALLEY, null);
    due("36 first", x.both(0, NONE, 0, 0, false), 1);
    due("36 second", x.both(0, NONE, 0, 0, true), 2);
    OnePair even = of("slots 2;eye 0 0 0;eye 0 1 0;eye 0 1 0;eye 0 1 0;", null);
    due("36 the first by rows", even.both(0, NONE, 0, 0, false) * 10 + even.both(0, NONE, 0, 0, true), 12);
    due("36 one alone", of("eye 0 9 0;", null).both(0, NONE, 0, 0, false), NONE);
    OnePair none = of("eye 0 0 0;eye 0 0 0;", null);
    due("36 none grows", none.both(0, NONE, 0, 0, false), NONE);
    due("36 no second", none.both(0, NONE, 0, 0, true), NONE);
    due("36 no day", x.both(0, NONE, 0, -1, true), -2);
    due("36 no best", of(NOWHERE, null).both(0, NONE, 0, 0, false), -2);
  }

  private static void promise37Ease() {
    OnePair x = of(VALLEY, null);
    due("37 f", x.ease(0, NONE, 0, 0, 0, 1, false), 0);
    due("37 harm", x.ease(0, NONE, 0, 0, 0, 1, true), 3);
    due("37 of several the least", x.ease(0, NONE, 0, 0, 2, 2, false), 3);
    due("37 harm by light", x.ease(0, NONE, 0, 0, 2, 2, true), 7);
    due("37 no harm", x.ease(0, NONE, 0, 0, 1, 5, false), 1);
    due("37 by none", x.ease(0, NONE, 0, 0, 2, 4, false), NONE);
    due("37 no harm by none", x.ease(0, NONE, 0, 0, 2, 4, true), NONE);
    due("37 all slots", x.ease(0, NONE, 0, 0, 0, 6, true), 13);
    due("37 too many", x.ease(0, NONE, 0, 0, 0, 7, false), -2);
    due("37 no slots", x.ease(0, NONE, 0, 0, 0, 0, false), -2);
    due("37 no house", x.ease(0, NONE, 0, 0, 4, 1, false), -2);
    due("37 no state", x.ease(0, 0, 0, 0, 0, 1, false), -2);
    due("37 no best", of(NOWHERE, null).ease(0, NONE, 0, 0, 0, 1, false), -2);
  }

  private static void promise38Count() {
    OnePair x = Telling.told(VALLEY, "", "", "");
    Telling.tell(x, 1, NONE, "");
    due("38 counts", x.count(0) * 1000 + x.count(1) * 100 + x.count(2) * 10 + x.count(3), 1211);
    due("38 no sort", x.count(4), -2);
    due("38 nor this", x.count(-1), -2);
  }

  private static void promise39And40Images() {
    OnePair x = Telling.told(VALLEY, "at 1 1 2;", ALL_OF_0, "error 0 1;");
    Telling.tell(x, 1, NONE, "at 8 1 2;");
    Telling.tape(x, "error 2 3;");
    due("39 image", x.image(2), true);
    due("39 no image", x.image(3), false);
    due("39 nor this", x.image(-1), false);
    due("40 none such", x.again(0), false);
    due("40 nor this", x.again(3), false);
    due("40 nor that", x.again(-1), false);
    due("40 tape stays", x.end(10), 10);
    Telling.tell(x, 0, 0, "eye 7 7 7;");
    Telling.tell(x, 1, 0, "");
    Telling.tell(x, 2, 0, "");
    Telling.tell(x, 3, 0, "");
    Telling.tell(x, 3, NONE, "error 1 1;");
    due("39 another image", x.image(0), true);
    due("40 again", x.again(2), true);
    due("40 valley", x.valley(0, 5), 4);
    due("40 round", x.leg(0, NONE, 0), 1);
    due("40 ledger", x.deed(0, NONE, 0), 1);
    due("40 list", x.error(0, NONE, 0) * 10 + x.count(3), 11);
    due("40 fault", x.fault(0) * 10 + x.fault(1), 23);
    due("40 tape", x.text(3, NONE), 1);
    due("40 its text", x.error(1, 0, 0) * 10 + x.error(1, 0, 1), 23);
    due("40 the other image", x.again(0), true);
    due("40 other images stay", x.house(0, 0, 0), 7);
    due("40 its lists", x.count(3), 2);
    due("40 its fault", x.fault(0), 0);
    due("40 its tape", x.end(1), NONE);
    due("39 over an image", x.image(2), true);
    Telling.tell(x, 0, 0, VALLEY);
    due("40 as it is now", x.again(2), true);
    due("40 the later one", x.valley(0, 5), 1);
    due("40 as often as told", x.again(2), true);
  }

  public static void main(String[] args) {
    due("NONE", NONE, -1);
    promise1NewObject();
    promise2Feed();
    promise3End();
    promise4Text();
    promise4LaterOnesStrike();
    promise5FaultOfForm();
    promise5FaultOfNumber();
    promise5FaultOfCount();
    promise6Valley();
    promise7House();
    promise8Way();
    promise9Leg();
    promise10Play();
    promise11Where();
    promise12Row();
    promise13Rows();
    promise14Deed();
    promise15Stop();
    promise16Owner();
    promise17Has();
    promise18Lawful();
    promise19Best();
    promise20Spot();
    promise21Harm();
    promise22Soon();
    promise23Worth();
    promise24Pays();
    promise25Deal();
    promise26Halved();
    promise27Needs();
    promise28Day();
    promise29Cross();
    promise30Error();
    promise31Blame();
    promise32Likely();
    promise33Home();
    promise34Ways();
    promise35Buys();
    promise36Both();
    promise37Ease();
    promise38Count();
    promise39And40Images();
    T.close("PromiseTest");
  }
}

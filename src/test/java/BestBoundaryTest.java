import java.math.BigInteger;

/** Terms 4, promises 19 to 27: the best round, needs, worth, deals. */
public final class BestBoundaryTest {
  private static final int NONE = OnePair.NONE;
  /** One slot between the houses. */
  private static final String TWO = "slots 6;pace 9;eye 0 1 0;eye 9 5 0;";
  private static Boundary b;

  private static Asked by(String valley, String ledger) {
    return Asked.of(valley, null, ledger, null);
  }

  /** GAIN, or another what, of one day without a LEDGER. */
  private static void best(String valley, int what, int due) {
    b.due("best " + what + " of " + valley, by(valley, null).ask("best", 0, NONE, 0, 0, 1, what), due);
  }

  private static void spots(String valley, int days, int... due) {
    Asked x = by(valley, null);
    long slots = x.ask("valley", 0, 0);
    for (int i = 0; i < due.length; i++) {
      b.due("spot " + i + " of " + valley, x.ask("spot", 0, NONE, 0, 0, days, i / slots, i % slots), due[i]);
    }
  }

  private static void daysOfTheWeek() {
    b.says("BEST of a VALLEY by a STATE from a day of the week on, so many days, 1 .. 7:");
    Asked x = by("slots 2;eye 0 3 0;", "own 7 3 0 48;");
    for (int day = 0; day < 7; day++) {
      for (int days = 1; days < 8; days++) {
        boolean isHeld = (3 - day + 7) % 7 < days;
        b.due("from " + day + ", days " + days, x.ask("best", 0, 0, 1, day, days, 0), 6 * (isHeld ? days - 1 : days));
        b.due("all " + day + ", days " + days, x.ask("best", 0, 0, 0, day, days, 0), 6 * days);
      }
    }
    b.asks(x, "best 0 0 1 0 0 0", NONE);
    b.asks(x, "best 0 0 1 0 8 0", NONE);
    Asked far = by("slots 48;pace 99;" + "eye 99 9 0;".repeat(7) + "two 0 9 0;start 7;", "own 7 6 47 48;own 0 0 0 48;");
    b.asks(far, "best 0 0 2 6 7 0", 9 * 48 * 7 - 9);
    b.asks(far, "best 0 0 2 6 7 1", 99);
    b.asks(far, "best 0 0 0 6 7 0", 9 * 48 * 7);
    b.asks(far, "best 0 0 0 6 7 1", 0);
    b.says("the pair is at START at first; slot by slot it stays, or begins a WAY to another HOUSE (it is at none, then,"
        + " as long as it takes; a WAY ends with the last slot at the latest); days follow one another.");
    spots("slots 3;start 1;eye 0 0 0;eye 0 0 0;", 1, 1, 1, 1);
    best("slots 1;eye 0 1 0;eye 9 9 0;", 0, 1);
    best("slots 2;eye 0 1 0;eye 9 9 0;", 0, 9);
    best("slots 2;pace 9;eye 0 1 0;eye 10 9 0;", 0, 2);
    best("slots 3;pace 9;eye 0 1 0;eye 10 9 0;", 0, 9);
    best("slots 48;pace 1;eye 0 0 0;eye 47 9 0;", 0, 9);
    best("slots 48;pace 1;eye 0 0 0;eye 48 9 0;", 0, 0);
    best("slots 48;pace 1;eye 0 0 0;eye 48 9 0;", 1, 0);
    b.asks(by("slots 1;eye 0 0 0;eye 0 0 0;", null), "ways 0 -1 0 0", 2);
    b.asks(by("slots 2;eye 0 1 0;eye 9 9 0;", null), "best 0 -1 0 0 7 0", 9 * 13);
    b.asks(by("slots 1;eye 0 1 0;eye 9 9 0;", null), "best 0 -1 0 0 7 0", 9 * 6);
    spots("slots 1;eye 0 1 0;eye 9 9 0;", 3, NONE, 1, 1);
  }

  private static void gains() {
    b.says("GAIN of a slot: RATE (CRACKED: as above) of the HOUSE where it is, if it SEES by it, and MAY (of TOUCH: 0).");
    best("slots 5;light 1 3;colour 0 7 0;", 0, 14);
    best("slots 5;light 1 3;colour 0 7 0;", 2, 6);
    best("slots 5;light 4 48;colour 0 7 0;", 0, 7);
    best("slots 5;light 5 6;colour 0 7 0;", 0, 0);
    best("slots 5;light 1 3;two 0 7 0;", 0, 35);
    best("slots 5;light 1 3;two 0 7 0;", 2, 15);
    best("slots 5;touch 0 9 0;", 0, 0);
    best("slots 5;touch 0 9 0;eye 99 1 0;", 0, 0);
    best("slots 5;touch 0 9 0;eye 9 1 0;", 0, 4);
    best("slots 1;eye 0 0 0;", 0, 0);
    best("slots 48;eye 0 9 0;", 0, 432);
    // cracked, another house is best: 1 house of two glasses, 3 a slot instead of 7, 5 with one glass
    best("slots 4;two 0 7 0;eye 0 5 0;", 0, 28);
    best("slots 4;two 0 7 0;eye 0 5 0;", 2, 15);
    Asked lit = by("slots 5;light 1 3;colour 0 7 0;", null);
    for (int days = 1; days < 8; days++) {
      b.asks(lit, "best 0 -1 0 6 " + days + " 0", 14 * days);
      b.asks(lit, "best 0 -1 0 6 " + days + " 2", 6 * days);
    }
    Asked x = by("slots 5;eye 0 2 0;eye 99 1 0;", "own 0 0 0 2;own 1 0 2 3;own 7 0 3 4;pawn 0 1 0 1 2;own 0 1 0 5;");
    int[] due = {10, 10, 8, 6, 4};
    for (int n = 0; n < due.length; n++) {
      b.asks(x, "best 0 0 " + n + " 0 1 0", due[n]);
      b.asks(x, "best 0 0 " + n + " 1 1 0", 10);
    }
    b.asks(x, "best 0 0 5 1 1 0", 10);
  }

  private static void musts() {
    b.says("In slots of MUSTS, each day, it is at their HOUSE (MUSTS that can't be: there is no BEST).");
    best(TWO + "must 0 0 6;", 0, 6);
    best(TWO + "must 0 5 6;", 0, 15 + 1);
    best(TWO + "must 1 0 1;", 0, NONE);
    best(TWO + "must 1 1 2;", 0, 25);
    best(TWO + "must 0 0 1;must 1 1 2;", 0, NONE);
    best(TWO + "must 0 0 1;must 1 2 3;", 0, 21);
    best(TWO + "must 0 0 1;must 1 2 3;must 0 3 4;", 0, NONE);
    best(TWO + "must 0 0 1;must 1 2 3;must 0 4 5;", 0, 1 + 5 + 1 + 1);
    best(TWO + "must 0 2 3;must 0 2 4;must 0 3 4;", 0, 4 + 5);
    best(TWO + "must 0 2 4;must 1 3 4;", 0, NONE);
    best(TWO + "must 1 3 4;must 0 2 4;", 0, NONE);
    best(TWO + "must 1 3 4;must 1 3 4;must 0 3 4;must 1 3 4;", 0, NONE);
    for (int one = 0; one < 8; one++) {
      int two = (one + 1) % 8;
      String ahead = "slots 6;" + "eye 0 1 0;".repeat(8) + "must " + one + " 1 3;";
      best(ahead + "must " + two + " 2 4;", 0, NONE);
      best(ahead + "must " + two + " 0 2;", 0, NONE);
      best(ahead + "must " + two + " 3 4;", 0, NONE);
      best(ahead + "must " + one + " 2 4;", 0, one == 0 ? 6 : 5);
      best("slots 6;" + "eye 0 1 0;".repeat(8) + "must " + one + " 2 3;must " + two + " 2 3;", 0, NONE);
    }
    best("slots 2;pace 9;eye 0 0 0;eye 10 1 0;must 1 1 2;", 0, NONE);
    best("slots 3;pace 9;eye 0 0 0;eye 10 1 0;must 1 2 3;", 0, 1);
    best("slots 3;pace 9;eye 0 0 0;eye 10 1 0;must 0 1 2;must 1 2 3;", 0, NONE);
    best("slots 48;pace 1;eye 0 0 0;eye 47 1 0;must 1 47 48;", 0, 1);
    best("slots 48;pace 1;eye 0 0 0;eye 48 1 0;must 1 47 48;", 0, NONE);
    best("slots 4;touch 0 9 0;eye 9 5 0;must 0 0 4;", 0, 0);
    Asked each = by("slots 3;pace 9;eye 0 1 0;eye 9 5 0;must 0 0 1;must 1 2 3;", null);
    b.asks(each, "best 0 -1 0 0 1 0", 6);
    b.asks(each, "best 0 -1 0 0 2 0", NONE);
    b.asks(each, "spot 0 -1 0 0 2 0 0", -2);
    Asked again = by("slots 3;pace 9;eye 0 1 0;eye 9 5 0;must 1 1 2;", null);
    b.asks(again, "best 0 -1 0 0 7 0", 5 * 20);
    b.asks(again, "best 0 -1 0 0 7 1", 9);
    Asked both = by("slots 4;pace 9;eye 0 1 0;eye 9 5 0;must 0 0 1;must 1 2 3;", null);
    b.asks(both, "best 0 -1 0 0 7 0", 6 * 6 + 11);
    b.asks(both, "best 0 -1 0 0 7 1", 13 * 9);
  }

  private static void leastClimb() {
    b.says("BEST: the most GAIN; of such the least CLIMB.");
    String far = "slots 3;pace 99;eye 0 0 0;eye 50 1 0;eye 20 1 0;eye 21 1 0;";
    best(far, 0, 2);
    best(far, 1, 20);
    best("slots 3;pace 99;eye 0 1 0;eye 50 1 0;", 1, 0);
    best("slots 3;pace 99;eye 0 1 0;eye 50 2 0;", 0, 4);
    best("slots 3;pace 99;eye 0 1 0;eye 50 2 0;", 1, 50);
    best("slots 2;pace 99;eye 0 1 0;eye 50 2 0;", 1, 0);
    best("slots 2;pace 99;eye 0 1 0;eye 50 1 0;must 1 1 2;", 1, 50);
    best("slots 48;" + "eye 0 0 0;eye 99 0 0;".repeat(4), 1, 0);
    // each day from 0 to 99 and back: as much CLIMB as can be
    String climbs = "slots 48;pace 99;eye 0 9 0;eye 99 9 0;must 0 0 1;must 1 2 3;must 0 4 5;must 1 6 7;must 0 8 9;";
    Asked x = by(climbs + "must 1 47 48;", null);
    b.asks(x, "best 0 -1 0 0 1 1", 5 * 99);
    b.asks(x, "best 0 -1 0 0 1 0", (48 - 5) * 9);
    b.says("SPOT: where it is: so long as it can stay by such a way it stays, else it goes to the least HOUSE by such a way.");
    spots("slots 3;eye 0 0 0;eye 0 0 0;", 1, 0, 0, 0);
    spots("slots 4;eye 0 1 0;eye 0 1 0;must 1 3 4;", 1, 0, 0, NONE, 1);
    spots("slots 4;pace 9;eye 0 0 0;eye 9 3 0;eye 9 3 0;", 1, NONE, 1, 1, 1);
    spots("slots 4;pace 9;start 1;eye 9 3 0;eye 0 0 0;eye 9 3 0;", 1, NONE, 0, 0, 0);
    spots("slots 5;pace 9;eye 0 0 0;eye 18 1 0;eye 18 1 0;must 2 4 5;", 1, NONE, NONE, 2, 2, 2);
    // by house 1 in two ways or at once: the same slots and climb, house 1 is the less
    spots("slots 4;pace 9;eye 0 0 0;eye 9 0 0;eye 18 1 0;must 2 3 4;", 1, NONE, NONE, 2, 2);
    Asked less = by("slots 4;pace 9;eye 0 0 0;eye 9 0 0;eye 18 1 0;must 2 3 4;", null);
    b.asks(less, "soon 0 -1 0 0 1 0", 1);
    b.asks(less, "soon 0 -1 0 0 2 0", 2);
    b.asks(less, "soon 0 -1 0 0 2 1", 2);
    b.asks(by("slots 4;pace 9;eye 0 0 0;eye 18 1 0;eye 9 0 0;must 1 3 4;", null), "soon 0 -1 0 0 1 0", 2);
    b.asks(by("slots 4;pace 9;eye 0 0 0;eye 18 1 0;eye 9 0 0;must 1 3 4;", null), "soon 0 -1 0 0 2 0", 3);
  }

  private static void harms() {
    b.says("HARM of a HOUSE, slots of the first day: BEST's GAIN less that if they were a MUST, too.");
    // TWO: at house 1 from slot 1 on, 25
    Asked x = by(TWO, "own 1 0 2 4;own 7 6 0 6;");
    String[] asked = {"0 0 1", "0 0 6", "0 5 6", "0 4 6", "1 1 2", "1 1 6", "1 5 6", "0 1 2", "1 0 1", "1 0 6", "0 2 3"};
    int[] due = {25 - 1 - 20, 19, 25 - 15 - 1, 25 - 10 - 2, 0, 0, 0, 25 - 15 - 2, -2, -2, 25 - 10 - 3};
    for (int i = 0; i < asked.length; i++) {
      b.asks(x, "harm 0 -1 0 0 " + asked[i] + " 0", due[i]);
    }
    b.asks(x, "harm 0 0 2 6 0 0 6 0", 0);
    Asked must = by(TWO + "must 1 3 4;", null);
    b.asks(must, "harm 0 -1 0 0 1 3 4 0", 0);
    b.asks(must, "harm 0 -1 0 0 0 3 4 0", -2);
    b.asks(must, "harm 0 -1 0 0 0 2 4 0", -2);
    b.asks(must, "harm 0 -1 0 0 0 2 3 0", -2);
    b.asks(must, "harm 0 -1 0 0 0 4 5 0", -2);
    b.asks(must, "harm 0 -1 0 0 0 1 2 0", 25 - 2 - 15);
    b.asks(must, "harm 0 -1 0 0 0 5 6 0", 25 - 15 - 1);
    Asked one = by("slots 1;eye 0 1 0;eye 0 9 0;", null);
    b.asks(one, "harm 0 -1 0 0 0 0 1 0", 0);
    b.asks(one, "harm 0 -1 0 0 1 0 1 0", -2);
    Asked last = by("slots 6;pace 9;start 1;eye 9 5 0;eye 0 1 0;eye 9 5 0;", null);
    int[] first = {-2, 4, -2};
    int[] second = {0, 25 - 2 - 15, 0};
    for (int h = 0; h < 3; h++) {
      b.asks(last, "harm 0 -1 0 0 " + h + " 0 1 0", first[h]);
      b.asks(last, "harm 0 -1 0 0 " + h + " 1 2 0", second[h]);
    }
    Asked reached = by(TWO + "must 1 1 2;must 0 3 4;must 1 5 6;", null);
    String[] needs = {"1 1 2", "0 3 4", "1 5 6", "1 2 3", "0 2 3", "0 4 5", "1 4 5", "1 0 1", "0 0 1"};
    for (int i = 0; i < needs.length; i++) {
      b.asks(reached, "harm 0 -1 0 0 " + needs[i] + " 0", i < 3 ? 0 : -2);
    }
    b.says("LENDER: SPOT of the first of them, by BEST.");
    b.asks(x, "harm 0 -1 0 0 0 0 1 1", NONE);
    b.asks(x, "harm 0 -1 0 0 0 0 6 1", NONE);
    b.asks(x, "harm 0 -1 0 0 0 1 6 1", 1);
    b.asks(x, "harm 0 -1 0 0 1 0 1 1", NONE);
    b.asks(x, "harm 0 -1 0 0 0 5 6 1", 1);
    b.asks(one, "harm 0 -1 0 0 1 0 1 1", 0);
  }

  private static void soon() {
    b.says("SOON from a slot of the first day: in which slot the pair can be at a HOUSE, going from SPOT at once (if it is"
        + " on a WAY: from the HOUSE where that ends, behind it; of WAYS one behind the other that one alone),"
        + " beyond the last one, too.");
    // slots 0, 1 on a way to house 1, slots 2, 3 there, slot 4 on a way to 2, slot 5 there
    Asked x = by("slots 6;pace 9;eye 0 0 0;eye 18 5 0;eye 27 9 0;must 1 3 4;must 2 5 6;", null);
    int[][] due = {{4, 4, 4, 5, 8, 8}, {2, 2, 2, 3, 6, 6}, {3, 3, 3, 4, 5, 5}};
    for (int h = 0; h < 3; h++) {
      for (int slot = 0; slot < 6; slot++) {
        b.asks(x, "soon 0 -1 0 0 " + h + " " + slot, due[h][slot]);
      }
    }
    Asked far = by("slots 48;pace 1;eye 0 1 0;eye 99 0 0;", null);
    b.asks(far, "soon 0 -1 0 0 1 47", 146);
    b.asks(far, "soon 0 -1 0 0 1 0", 99);
    b.asks(far, "soon 0 -1 0 0 0 47", 47);
    // two ways one behind the other: to house 1, then to house 2
    Asked two = by("slots 4;pace 9;eye 0 0 0;eye 9 0 0;eye 18 1 0;must 2 3 4;", null);
    int[] ofTwo = {1, 3, 3, 4};
    for (int slot = 0; slot < 4; slot++) {
      b.asks(two, "soon 0 -1 0 0 1 " + slot, ofTwo[slot]);
    }
  }

  private static void worth() {
    b.says("WORTH of slots of the first day to a HOUSE: BEST's GAIN less that if it MAY not in them."
        + " SPARE of slots of the first day: BEST's GAIN less that if nobody MAY in them.");
    Asked x = by(TWO, "own 1 0 0 6;own 0 1 0 6;");
    String[] asked = {"1 0 1", "1 1 2", "1 5 6", "1 1 6", "1 0 6", "0 0 6", "0 0 1", "-1 0 1", "-1 1 2", "-1 5 6", "-1 0 6"};
    int[] due = {0, 25 - 1 - 20, 5, 19, 19, 0, 0, 0, 25 - 1 - 20, 5, 25};
    for (int i = 0; i < asked.length; i++) {
      b.asks(x, "worth 0 -1 0 0 " + asked[i], due[i]);
    }
    b.asks(x, "worth 0 0 2 0 1 0 6", 25);
    b.asks(x, "worth 0 0 2 1 1 0 6", 0);
    b.asks(x, "worth 0 0 2 1 0 0 6", 6);
    b.asks(x, "worth 0 0 2 1 0 5 6", 1);
    Asked glasses = by("slots 6;pace 9;eye 0 1 0;two 9 5 0;colour 9 4 0;", null);
    b.asks(glasses, "worth 0 -1 0 0 1 0 6", 5);
    b.asks(glasses, "worth 0 -1 0 0 -1 5 6", 5);
    b.asks(glasses, "worth 0 -1 0 0 1 5 6", 5);
    b.asks(glasses, "worth 0 -1 0 0 -1 0 6", 25);
    Asked touch = by("slots 6;touch 0 9 0;eye 9 1 0;", null);
    b.asks(touch, "worth 0 -1 0 0 0 0 6", 0);
    b.asks(touch, "worth 0 -1 0 0 1 0 6", 5);
    b.asks(touch, "worth 0 -1 0 0 -1 0 1", 0);
    Asked must = by(TWO + "must 0 0 6;", null);
    b.asks(must, "worth 0 -1 0 0 0 2 4", 2);
    b.asks(must, "worth 0 -1 0 0 -1 2 4", 2);
    b.asks(must, "worth 0 -1 0 0 1 2 4", 0);
  }

  private static void pays() {
    b.says("PAYS: whether odds, so many of 100, times HARM of a need there is above 100 times SPARE.");
    // house 0 in the last slot: harm 9, spare 5
    Asked x = by(TWO, null);
    b.asks(x, "harm 0 -1 0 0 0 5 6 0", 9);
    b.asks(x, "worth 0 -1 0 0 -1 5 6", 5);
    int[] odds = {-1, 0, 1, 55, 56, 99, 100, 101, 1000};
    int[] due = {0, 0, 0, 0, 1, 1, 1, 0, 0};
    for (int i = 0; i < odds.length; i++) {
      b.asks(x, "pays 0 -1 0 0 0 5 6 " + odds[i], due[i]);
    }
    // harm 10, spare 5: by 50 of 100 as much, which is not above
    Asked even = by("slots 3;pace 10;eye 0 5 0;eye 20 5 0;", null);
    b.asks(even, "harm 0 -1 0 0 1 2 3 0", 10);
    b.asks(even, "pays 0 -1 0 0 1 2 3 50", 0);
    b.asks(even, "pays 0 -1 0 0 1 2 3 51", 1);
    b.asks(even, "pays 0 -1 0 0 1 1 3 100", 0);
    // no harm, no spare
    Asked none = by("slots 3;eye 0 0 0;", null);
    b.asks(none, "pays 0 -1 0 0 0 0 3 100", 0);
    b.asks(none, "pays 0 -1 0 0 0 0 3 0", 0);
    // harm and no spare: any odds but none pay
    Asked start = by(TWO, null);
    b.asks(start, "worth 0 -1 0 0 -1 0 1", 0);
    b.asks(start, "pays 0 -1 0 0 0 0 1 0", 0);
    b.asks(start, "pays 0 -1 0 0 0 0 1 1", 1);
    b.asks(start, "pays 0 -1 0 0 1 0 1 100", 0);
    Asked most = by("slots 48;pace 99;eye 0 9 0;eye 0 0 0;", null);
    b.asks(most, "harm 0 -1 0 0 1 1 48 0", 432);
    b.asks(most, "worth 0 -1 0 0 -1 1 48", 423);
    b.asks(most, "pays 0 -1 0 0 1 1 48 97", 0);
    b.asks(most, "pays 0 -1 0 0 1 1 48 98", 1);
  }

  private static void deal(String valley, String ledger, String houses, int f, int t, int growth) {
    Asked x = by(valley, ledger);
    int[] due = {f, t, growth};
    long n = x.ask("stop", 0);
    for (int what = 0; what < 3; what++) {
      b.asks(x, "deal 0 0 " + n + " 0 " + houses + " " + what, due[what]);
    }
  }

  private static void deals() {
    b.says("DEAL of two HOUSES: of all f, t of the first day whose slots the first one HOLDS all those by which, if the"
        + " second one HELD them, BEST's GAIN grows most, above 0; of several the least f, then t.");
    deal(TWO, "own 0 0 0 6;", "0 1", 0, 6, 19);
    deal(TWO, "own 0 0 0 6;", "1 0", NONE, NONE, NONE);
    deal(TWO, "", "0 1", NONE, NONE, NONE);
    deal(TWO, "own 0 1 0 6;", "0 1", NONE, NONE, NONE);
    deal(TWO, "own 0 0 1 6;", "0 1", 1, 6, 19);
    deal(TWO, "own 0 0 1 5;", "0 1", 1, 5, 25 - 4 - 5);
    deal(TWO, "own 0 0 0 5;own 7 0 5 6;", "0 1", 0, 5, 20 - 5);
    deal(TWO, "own 0 0 0 6;pawn 0 7 0 3 4;", "0 1", 4, 6, 3 + 10 - 5);
    deal(TWO, "own 1 0 0 6;pawn 1 0 0 5 6;", "0 1", 5, 6, 5);
    deal("slots 1;eye 0 1 0;eye 0 9 0;", "own 1 0 0 1;", "1 0", 0, 1, 1);
    deal("slots 1;eye 0 1 0;eye 0 9 0;", "own 0 0 0 1;", "0 1", NONE, NONE, NONE);
    deal("slots 4;eye 0 1 0;touch 0 9 0;", "own 1 0 0 4;", "1 0", 0, 4, 4);
    deal("slots 4;eye 0 1 0;touch 0 9 0;", "own 0 0 0 4;", "0 1", NONE, NONE, NONE);
    deal("slots 48;eye 0 1 0;eye 0 0 0;", "own 1 0 0 48;", "1 0", 0, 48, 48);
    deal("slots 6;light 2 4;colour 0 9 0;eye 0 0 0;", "own 1 0 0 6;", "1 0", 0, 4, 18);
    deal("slots 6;light 2 4;colour 0 9 0;eye 0 0 0;", "own 1 0 3 6;", "1 0", 3, 4, 9);
    deal("slots 6;eye 0 1 0;eye 0 0 0;", "own 1 0 0 2;own 1 0 3 5;", "1 0", 0, 2, 2);
    deal("slots 6;eye 0 1 0;eye 0 0 0;", "own 1 0 0 2;own 1 0 3 6;", "1 0", 3, 6, 3);
    // to hold them both grow by 5: the least f, then the least t
    deal("slots 6;light 2 3;colour 0 5 0;eye 0 0 0;", "own 1 0 1 6;", "1 0", 1, 3, 5);
    b.says("DEAL, what 0: f, 1: t, 2: by how much. NONE: none, there is no BEST, both are one,"
        + " there is no such HOUSE, or as best().");
    deal(TWO, "own 0 0 0 6;", "0 0", NONE, NONE, NONE);
    deal(TWO, "own 0 0 0 6;", "1 1", NONE, NONE, NONE);
    deal(TWO, "own 0 0 0 6;", "0 2", NONE, NONE, NONE);
    deal(TWO, "own 0 0 0 6;", "2 1", NONE, NONE, NONE);
    deal(TWO, "own 7 0 0 6;", "7 1", NONE, NONE, NONE);
    deal(TWO + "must 1 0 1;", "own 0 0 0 6;", "0 1", NONE, NONE, NONE);
  }

  private static void halved() {
    b.says("HALVED: without MUSTS, one glass each way, each by itself: twice the most GAIN of EYE's HOUSES alone by one;"
        + " whether that is above BEST's without MUSTS.");
    String[] valleys = {"slots 4;two 0 9 0;", "slots 4;eye 0 9 0;", "slots 4;touch 0 9 0;", "slots 4;colour 0 9 0;",
        "slots 4;eye 0 0 0;", "slots 4;eye 0 1 0;two 0 3 0;", "slots 5;eye 0 2 0;two 0 5 0;must 0 0 5;",
        "slots 5;pace 9;two 0 9 0;eye 9 5 0;must 0 0 5;", "slots 2;eye 0 1 0;two 9 4 0;must 1 1 2;"};
    int[] twice = {0, 72, 0, 0, 0, 8, 20, 40, 4};
    int[] above = {0, 1, 0, 0, 0, 0, 0, 0, 0};
    for (int i = 0; i < valleys.length; i++) {
      Asked x = by(valleys[i], "own 7 0 0 48;");
      b.due(valleys[i], x.ask("halved", 0, NONE, 0, 0, 0), twice[i]);
      b.due("above: " + valleys[i], x.ask("halved", 0, NONE, 0, 0, 1), above[i]);
      b.due("held: " + valleys[i], x.ask("halved", 0, 0, 1, 0, 0), 0);
      b.due("held, not above: " + valleys[i], x.ask("halved", 0, 0, 1, 0, 1), 0);
    }
    // 5 * 4 * 2 = 40: above 36, not above 40
    b.asks(by("slots 5;pace 9;two 0 7 0;eye 9 5 0;", null), "halved 0 -1 0 0 1", 1);
    b.asks(by("slots 5;pace 9;two 0 8 0;eye 9 5 0;", null), "halved 0 -1 0 0 1", 0);
    b.asks(by("slots 3;eye 0 1 0;two 0 2 0;must 1 1 2;", null), "halved 0 -1 0 0 1", 1);
    b.asks(by("slots 3;eye 0 1 0;two 0 2 0;must 1 0 1;", null), "halved 0 -1 0 0 0", NONE);
    b.asks(by("slots 3;eye 0 1 0;two 0 2 0;must 1 0 1;", null), "halved 0 -1 0 0 1", NONE);
  }

  private static final BigInteger BITS = BigInteger.ONE.shiftLeft(32);
  private static BigInteger x;

  private static int drawn(int below) {
    x = x.multiply(BigInteger.valueOf(1103515245)).add(BigInteger.valueOf(12345)).mod(BITS);
    return x.shiftRight(16).mod(BigInteger.valueOf(below)).intValue();
  }

  private static void needs() {
    b.says("a number below n is drawn: x becomes x * 1103515245 + 12345 (of 32 bits), it is x shifted right by 16 without"
        + " sign, remainder by n: k, 1 to 9, times a HOUSE below how many there are, f below SLOTS, and a number of slots"
        + " below 3 and 1, at most to the end:");
    String[] valleys = {"slots 6;pace 9;eye 0 2 1;two 10 5 2;colour 30 9 3;touch 5 4 0;light 2 5;", "slots 1;eye 0 9 0;",
        "slots 2;eye 0 9 0;eye 0 9 0;", "slots 48;pace 50;" + "eye 0 9 0;eye 99 1 0;".repeat(4), TWO + "must 1 3 4;"};
    int[] seeds = {0, 1, -1, 2, 12345, Integer.MAX_VALUE, Integer.MIN_VALUE, -2143289344, 1103515245, 777};
    for (String valley : valleys) {
      Asked asked = by(valley, null);
      int houses = (int) asked.ask("valley", 0, 5);
      int slots = (int) asked.ask("valley", 0, 0);
      for (int seed : seeds) {
        x = BigInteger.valueOf(seed).mod(BITS);
        long[] due = new long[3];
        for (int k = 1; k <= 9; k++) {
          int house = drawn(houses);
          int f = drawn(slots);
          int t = Math.min(slots, f + drawn(3) + 1);
          long harm = asked.ask("harm", 0, NONE, 0, 0, house, f, t, 0);
          due[0] += harm == -2 ? 0 : harm;
          due[1] += harm == -2 ? 1 : 0;
          due[2] = Math.max(due[2], harm);
          for (int what = 0; what < 3; what++) {
            b.due(valley + seed + " " + k, asked.ask("needs", 0, NONE, 0, 0, seed, k, what), due[what]);
          }
        }
        b.due("no ten", asked.ask("needs", 0, NONE, 0, 0, seed, 10, 0), -2);
        b.due("not none", asked.ask("needs", 0, NONE, 0, 0, seed, 0, 0), -2);
      }
    }
    b.says("NEEDS, what 0: all HARM, 1: how many are not counted, 2: the greatest HARM (0 without).");
    Asked none = by("slots 1;start 0;eye 0 0 0;eye 9 9 0;", null);
    for (int seed = 0; seed < 20; seed++) {
      x = BigInteger.valueOf(seed);
      long not = drawn(2);
      b.asks(none, "needs 0 -1 0 0 " + seed + " 1 0", 0);
      b.asks(none, "needs 0 -1 0 0 " + seed + " 1 1", not);
      b.asks(none, "needs 0 -1 0 0 " + seed + " 1 2", 0);
    }
  }

  public static void main(String[] args) throws Exception {
    b = new Boundary("BestBoundaryTest");
    daysOfTheWeek();
    gains();
    musts();
    leastClimb();
    harms();
    soon();
    worth();
    pays();
    deals();
    halved();
    needs();
    b.close();
  }
}

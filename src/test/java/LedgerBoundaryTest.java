/** Terms 3 and CROSS, promises 14 to 18 and 29: who owns and holds, which deeds can't be, what is lawful. */
public final class LedgerBoundaryTest {
  private static final int NONE = OnePair.NONE;
  private static final int ALL = 7 * 48;
  private static final String WEEK = "own 0 0 0 48;own 0 1 0 48;own 0 2 0 48;own 0 3 0 48;own 0 4 0 48;own 0 5 0 48;"
      + "own 0 6 0 48;";
  private static Boundary b;

  private static Asked by(String ledger) {
    return Asked.of(null, null, ledger, null);
  }

  private static void stop(String ledger, int due) {
    b.due("stop of " + ledger, by(ledger).ask("stop", 0), due);
  }

  /** OWNER and HOLDER of a slot of day 3, behind all deeds, which all can be. */
  private static void claim(String ledger, int slot, int owner, int holder) {
    Asked x = by(ledger);
    long n = x.ask("deed", 0, NONE, 0);
    b.due("stop of " + ledger, x.ask("stop", 0), n);
    b.due("owner of " + slot + " by " + ledger, x.ask("owner", 0, n, 3, slot, 0), owner);
    b.due("holder of " + slot + " by " + ledger, x.ask("owner", 0, n, 3, slot, 1), holder);
  }

  private static void none() {
    b.says("of each day's slots an OWNER, a HOLDER, none at first.");
    Asked x = by("own 0 3 3 5;");
    for (int day = 0; day < 7; day++) {
      for (int slot = 0; slot < 48; slot++) {
        long owner = day == 3 && (slot == 3 || slot == 4) ? 0 : NONE;
        for (int holder = 0; holder < 2; holder++) {
          b.asks(x, "owner 0 0 " + day + " " + slot + " " + holder, NONE);
          b.asks(x, "owner 0 1 " + day + " " + slot + " " + holder, owner);
          b.asks(x, "owner -1 0 " + day + " " + slot + " " + holder, NONE);
        }
      }
    }
    for (int h = 0; h < 8; h++) {
      int[] due = {0, 0, NONE, 0};
      for (int what = 0; what < 4; what++) {
        b.asks(x, "has 0 0 " + h + " " + what, due[what]);
        b.asks(x, "has -1 0 " + h + " " + what, due[what]);
        b.asks(x, "has 0 1 " + h + " " + what, h == 0 && what < 2 ? 2 : due[what]);
      }
    }
  }

  private static void own() {
    b.says("A DEED can't be, if a HOUSE is dead; own: one of the slots has an OWNER;");
    stop("own 0 0 5 9;own 1 0 9 10;own 2 0 4 5;", 3);
    stop("own 0 0 5 9;own 1 0 8 9;", 1);
    stop("own 0 0 5 9;own 1 0 8 20;", 1);
    stop("own 0 0 5 9;own 1 0 0 6;", 1);
    stop("own 0 0 5 9;own 1 0 6 7;", 1);
    stop("own 0 0 5 9;own 1 0 0 48;", 1);
    stop("own 0 0 5 9;own 0 0 5 9;", 1);
    stop("own 0 0 5 9;own 1 1 5 9;own 2 6 5 9;", 3);
    stop("own 0 0 47 48;own 1 1 0 1;own 2 0 46 47;", 3);
    stop("own 0 6 47 48;own 1 6 47 48;", 1);
    stop("own 0 0 5 9;sell 0 1 0 5 9;own 0 0 5 9;", 2);
    stop("own 0 0 5 9;pawn 0 1 0 5 9;own 0 0 5 9;", 2);
    stop("own 0 0 5 9;dies 0;own 1 0 5 9;", 3);
    stop("own 0 0 5 9;will 0 2;dies 0;own 1 0 5 9;", 3);
    stop("dies 0;own 0 0 5 9;", 1);
    b.says("own: it OWNS and HOLDS them.");
    claim("own 7 3 0 48;", 0, 7, 7);
    claim("own 7 3 5 6;", 5, 7, 7);
    claim("own 7 3 5 6;", 4, NONE, NONE);
    claim("own 7 3 5 6;", 6, NONE, NONE);
    claim("own 7 3 0 48;", 47, 7, 7);
    Asked week = by(WEEK);
    b.asks(week, "has 0 7 0 0", ALL);
    b.asks(week, "has 0 7 0 1", ALL);
    b.asks(week, "has 0 6 0 0", ALL - 48);
  }

  private static void sellAndPawn() {
    b.says("sell, pawn: one is not both OWNED and HELD by the first one;");
    for (String word : new String[] {"sell", "pawn"}) {
      stop(word + " 0 1 0 5 9;", 0);
      stop("own 0 0 5 9;" + word + " 0 1 0 5 9;", 2);
      stop("own 0 0 5 9;" + word + " 0 1 0 6 8;", 2);
      stop("own 0 0 5 9;" + word + " 0 1 0 4 9;", 1);
      stop("own 0 0 5 9;" + word + " 0 1 0 5 10;", 1);
      stop("own 0 0 5 9;" + word + " 0 1 1 5 9;", 1);
      stop("own 0 0 5 9;" + word + " 1 0 0 5 9;", 1);
      stop("own 0 0 5 9;own 2 0 9 10;" + word + " 0 1 0 5 10;", 2);
      stop("own 0 0 5 9;pawn 0 1 0 8 9;" + word + " 0 2 0 5 9;", 2);
      stop("own 0 0 5 9;pawn 0 1 0 8 9;" + word + " 0 2 0 5 8;", 3);
      stop("own 0 0 5 9;pawn 0 1 0 5 9;" + word + " 1 2 0 5 9;", 2);
      stop("own 0 0 5 9;pawn 0 1 0 5 9;back 1;" + word + " 0 2 0 5 9;", 4);
      stop("own 0 0 5 9;sell 0 1 0 5 9;" + word + " 1 2 0 5 9;", 3);
      stop("own 0 0 5 9;sell 0 1 0 5 9;" + word + " 0 2 0 5 9;", 2);
      stop("own 0 0 5 9;dies 1;" + word + " 0 1 0 5 9;", 2);
      stop("own 0 0 5 9;dies 0;" + word + " 0 1 0 5 9;", 2);
      stop("own 0 6 47 48;" + word + " 0 7 6 47 48;", 2);
    }
    b.says("sell: OWNER and HOLDER are the other one. pawn: the other one is HOLDER.");
    claim("own 0 3 5 9;sell 0 1 3 6 8;", 5, 0, 0);
    claim("own 0 3 5 9;sell 0 1 3 6 8;", 6, 1, 1);
    claim("own 0 3 5 9;sell 0 1 3 6 8;", 7, 1, 1);
    claim("own 0 3 5 9;sell 0 1 3 6 8;", 8, 0, 0);
    claim("own 0 3 5 9;pawn 0 1 3 6 8;", 5, 0, 0);
    claim("own 0 3 5 9;pawn 0 1 3 6 8;", 6, 0, 1);
    claim("own 0 3 5 9;pawn 0 1 3 6 8;", 7, 0, 1);
    claim("own 0 3 5 9;pawn 0 1 3 6 8;", 8, 0, 0);
  }

  private static void back() {
    b.says("back: it is no such pawn ahead.");
    String ahead = "own 0 3 5 9;pawn 0 1 3 6 8;";
    stop(ahead + "back 1;", 3);
    stop(ahead + "back 0;", 2);
    stop(ahead + "back 2;", 2);
    stop(ahead + "back 3;", 2);
    stop(ahead + "back 29;", 2);
    stop("back 0;", 0);
    stop("back 1;own 0 3 5 9;", 0);
    stop("own 0 3 5 9;back 2;pawn 0 1 3 6 8;", 1);
    stop("own 0 3 5 9;sell 0 1 3 6 8;back 1;", 2);
    stop("will 0 1;back 0;", 1);
    stop("dies 0;back 0;", 1);
    stop(ahead + "back 1;back 1;", 3);
    stop(ahead + "back 1;back 2;", 3);
    stop(ahead + "back 1;pawn 0 1 3 6 8;back 1;", 4);
    stop(ahead + "back 1;pawn 0 1 3 6 8;back 3;", 5);
    stop("will 0 1;".repeat(27) + ahead + "back 28;", 30);
    stop("will 0 1;".repeat(27) + ahead + "back 29;", 29);
    stop(ahead + "dies 0;back 1;", 4);
    stop(ahead + "dies 1;back 1;", 4);
    b.says("back: the DEED told, a pawn that was not given back yet: OWNER is HOLDER again (of what its slots are).");
    claim(ahead + "back 1;", 6, 0, 0);
    claim(ahead + "pawn 0 2 3 8 9;back 1;", 7, 0, 0);
    claim(ahead + "pawn 0 2 3 8 9;back 1;", 8, 0, 2);
    claim(ahead + "pawn 0 2 3 8 9;back 2;", 7, 0, 1);
    claim(ahead + "pawn 0 2 3 8 9;back 2;", 8, 0, 0);
    claim(ahead + "will 0 2;dies 0;back 1;", 6, 2, 2);
    claim(ahead + "will 1 2;dies 1;back 1;", 6, 0, 0);
    claim(ahead + "will 0 1;dies 0;sell 1 2 3 6 7;back 1;", 6, 2, 2);
    claim(ahead + "will 0 1;dies 0;sell 1 2 3 6 7;back 1;", 7, 1, 1);
  }

  private static void theDead() {
    b.says("dies: it does no DEED any more (of any), nor is one done to it;");
    String[] deeds = {"own 0 0 0 1;", "sell 0 1 3 5 9;", "sell 1 0 4 5 9;", "pawn 0 1 3 5 9;", "pawn 1 0 4 5 9;",
        "will 0 1;", "will 1 0;", "dies 0;"};
    for (String deed : deeds) {
      stop("own 0 3 5 9;own 1 4 5 9;" + deed, 3);
      stop("own 0 3 5 9;own 1 4 5 9;dies 0;" + deed, 3);
      stop("own 0 3 5 9;own 1 4 5 9;will 0 2;dies 0;" + deed, 4);
    }
    stop("dies 0;dies 1;dies 2;dies 3;dies 4;dies 5;dies 6;dies 7;", 8);
    stop("dies 7;dies 6;dies 7;", 2);
    b.says("will: its HEIR is the other one.");
    claim("own 0 3 5 9;will 0 1;", 5, 0, 0);
    claim("own 0 3 5 9;will 0 1;will 0 2;will 1 3;dies 0;", 5, 2, 2);
    Asked x = by("will 0 1;dies 0;dies 1;");
    int[][] due = {{0, 0, NONE, 0}, {0, 0, 1, 0}, {0, 0, 1, 1}, {0, 0, 1, 1}};
    for (int n = 0; n < 4; n++) {
      for (int what = 0; what < 4; what++) {
        b.asks(x, "has 0 " + n + " 0 " + what, due[n][what]);
      }
      b.asks(x, "has 0 " + n + " 1 3", n == 3 ? 1 : 0);
      b.asks(x, "has 0 " + n + " 1 2", NONE);
    }
  }

  private static void heirs() {
    b.says("what it OWNS, HEIR OWNS, what it HOLDS of others, HEIR HOLDS (who is dead: his HEIR, and so on;"
        + " none: nobody OWNS it, what it HELD its OWNER HOLDS; OWNERS who are nobody: nobody HOLDS it).");
    String ahead = "own 0 3 5 9;pawn 0 1 3 6 7;own 1 3 20 21;";
    claim(ahead + "will 0 2;dies 0;", 5, 2, 2);
    claim(ahead + "will 0 2;dies 0;", 6, 2, 1);
    claim(ahead + "will 0 2;dies 0;", 20, 1, 1);
    claim(ahead + "will 0 1;dies 0;", 6, 1, 1);
    claim(ahead + "will 1 2;dies 1;", 5, 0, 0);
    claim(ahead + "will 1 2;dies 1;", 6, 0, 2);
    claim(ahead + "will 1 2;dies 1;", 20, 2, 2);
    claim(ahead + "will 1 0;dies 1;", 6, 0, 0);
    claim(ahead + "dies 1;", 6, 0, 0);
    claim(ahead + "dies 1;", 20, NONE, NONE);
    claim(ahead + "dies 0;", 5, NONE, NONE);
    claim(ahead + "dies 0;", 6, NONE, NONE);
    claim(ahead + "dies 0;", 20, 1, 1);
    claim(ahead + "dies 0;dies 1;", 6, NONE, NONE);
    claim(ahead + "dies 1;dies 0;", 6, NONE, NONE);
    claim(ahead + "dies 0;own 3 3 5 7;", 6, 3, 3);
    claim(ahead + "will 0 2;will 0 3;dies 0;", 5, 3, 3);
    claim(ahead + "will 2 3;dies 0;", 5, NONE, NONE);
    claim(ahead + "will 0 2;dies 2;dies 0;", 5, NONE, NONE);
    claim(ahead + "will 0 2;will 2 3;dies 2;dies 0;", 5, 3, 3);
    claim(ahead + "will 0 2;will 2 3;dies 0;dies 2;", 5, 3, 3);
    claim(ahead + "will 1 2;will 2 3;dies 2;dies 1;", 6, 0, 3);
    claim(ahead + "will 0 2;will 2 0;dies 2;dies 0;", 5, NONE, NONE);
    claim(ahead + "will 0 2;will 2 3;will 3 2;dies 2;dies 3;dies 0;", 5, NONE, NONE);
    claim(ahead + "will 1 2;will 2 1;dies 2;dies 1;", 6, 0, 0);
    StringBuilder chain = new StringBuilder("own 0 3 5 9;own 7 3 9 10;pawn 7 0 3 9 10;");
    for (int h = 0; h < 7; h++) {
      chain.append("will ").append(h).append(' ').append(h + 1).append(';');
    }
    for (int h = 6; h > 0; h--) {
      chain.append("dies ").append(h).append(';');
    }
    claim(chain.toString(), 5, 0, 0);
    claim(chain + "dies 0;", 5, 7, 7);
    claim(chain + "dies 0;", 9, 7, 7);
    claim(chain + "dies 7;dies 0;", 5, NONE, NONE);
    claim(chain + "will 7 0;dies 7;", 9, 0, 0);
    claim(chain + "will 7 0;dies 7;dies 0;", 5, NONE, NONE);
  }

  private static void has() {
    b.says("Of a HOUSE, 0 .. 7, what 0: how many slots of the week it OWNS, 1: HOLDS, 2: its HEIR as told (NONE),"
        + " 3: 1 if it is dead, else 0.");
    Asked x = by("own 0 0 0 48;own 0 6 0 48;pawn 0 7 6 40 48;sell 0 1 0 0 1;will 7 1;will 1 7;dies 1;dies 7;");
    int[][] due = {{0, 0, 0, 0}, {48, 48, 0, 0}, {96, 96, 0, 0}, {96, 88, 0, 8}, {95, 87, 0, 8}, {95, 87, 0, 8},
        {95, 87, 0, 8}, {95, 87, 1, 9}, {95, 95, 0, 0}};
    for (int n = 0; n < due.length; n++) {
      b.asks(x, "has 0 " + n + " 0 0", due[n][0]);
      b.asks(x, "has 0 " + n + " 0 1", due[n][1]);
      b.asks(x, "has 0 " + n + " 7 0", due[n][2]);
      b.asks(x, "has 0 " + n + " 7 1", due[n][3]);
      b.asks(x, "has 0 " + n + " 7 2", n < 5 ? NONE : 1);
      b.asks(x, "has 0 " + n + " 7 3", n < 8 ? 0 : 1);
    }
    b.asks(x, "owner 0 8 0 0 0", NONE);
    b.asks(x, "owner 0 8 6 47 1", 0);
    b.says("of DEED k, what 0: 0 own, 1 sell, 2 pawn, 3 back, 4 will, 5 dies, 1 .. 5: its numbers as told"
        + " (NONE without).");
    Asked deeds = by("own 7 6 47 48;sell 7 0 6 0 48;pawn 0 7 0 47 48;back 29;will 7 6;dies 7;");
    int[][] numbers = {{0, 7, 6, 47, 48, NONE}, {1, 7, 0, 6, 0, 48}, {2, 0, 7, 0, 47, 48}, {3, 29, NONE, NONE, NONE, NONE},
        {4, 7, 6, NONE, NONE, NONE}, {5, 7, NONE, NONE, NONE, NONE}};
    for (int k = 0; k < 6; k++) {
      for (int what = 0; what < 6; what++) {
        b.asks(deeds, "deed 0 " + k + " " + what, numbers[k][what]);
      }
    }
    b.says("STOP: the first DEED that can't be, else how many there are.");
    stop("", 0);
    stop("dies 0;", 1);
    stop("will 0 1;".repeat(30), 30);
    stop("will 0 1;".repeat(29) + "back 0;", 29);
    stop("back 0;" + "will 0 1;".repeat(29), 0);
    stop("own 0 0 0 1;own 0 0 0 1;dies 0;", 1);
  }

  private static void lawful(String round, String ledger, int due) {
    Asked x = Asked.of("slots 9;pace 9;eye 0 1 1;eye 9 1 1;", round, ledger, null);
    long n = x.ask("stop", 0);
    b.due("lawful: " + round + " by " + ledger, x.ask("lawful", 0, 0, 0, n, 3), due);
  }

  private static void lawfulRounds() {
    b.says("MAY: in a slot of a day a HOUSE may work with the pair, if nobody HOLDS it, or it does."
        + " LAWFUL: each LEG of a ROUND, up to its STOP, in all its slots.");
    String round = "at 0 0 1;at 1 3 6;";
    lawful(round, "", NONE);
    lawful(round, "own 1 3 3 6;own 0 3 0 1;", NONE);
    lawful(round, "own 0 3 0 3;own 2 3 6 48;", NONE);
    lawful(round, "own 0 3 3 4;", 1);
    lawful(round, "own 0 3 4 5;", 1);
    lawful(round, "own 7 3 5 6;", 1);
    lawful(round, "own 1 3 0 1;own 0 3 3 4;", 0);
    lawful(round, "own 0 2 0 48;own 0 4 0 48;", NONE);
    lawful(round, "own 0 3 3 6;pawn 0 1 3 3 6;", NONE);
    lawful(round, "own 1 3 3 6;pawn 1 0 3 5 6;", 1);
    lawful(round, "own 1 3 3 6;pawn 1 0 3 5 6;back 1;", NONE);
    lawful(round, "own 0 3 3 6;dies 0;", NONE);
    lawful("", "own 7 3 0 48;", NONE);
    lawful("at 1 0 9;at 1 3 6;", "own 7 3 0 48;", NONE);
    lawful("at 0 0 9;at 1 3 6;", "own 0 3 0 9;", NONE);
    lawful("at 0 0 1;at 1 1 6;", "own 0 3 0 9;", NONE);
    lawful("at 0 0 9;", "own 7 3 8 9;", 0);
    lawful("at 0 0 9;", "own 7 3 9 10;", NONE);
    Asked touch = Asked.of("slots 9;touch 0 1 1;", "at 0 2 3;", "own 7 6 2 3;", null);
    for (int day = 0; day < 7; day++) {
      b.asks(touch, "lawful 0 0 0 1 " + day, day == 6 ? 0 : NONE);
      b.asks(touch, "lawful 0 0 0 0 " + day, NONE);
      b.asks(touch, "lawful 0 0 -1 0 " + day, NONE);
    }
    Asked last = Asked.of("slots 48;eye 0 1 1;", "at 0 0 1;at 0 47 48;", "own 1 6 47 48;own 1 0 0 1;", null);
    b.asks(last, "lawful 0 0 0 2 6", 1);
    b.asks(last, "lawful 0 0 0 2 0", 0);
    b.asks(last, "lawful 0 0 0 1 0", NONE);
  }

  private static void cross() {
    b.says("CROSS of two LEDGERS, each up to its STOP: how many slots of the week have unlike HOLDERS.");
    String[] one = {WEEK, WEEK, WEEK, "own 0 0 0 1;pawn 0 1 0 0 1;", "own 0 6 47 48;", "own 0 0 0 9;own 1 0 8 20;", "", "",
        "own 0 0 0 5;dies 0;"};
    String[] two = {"", WEEK, "own 1 6 0 48;", "own 1 0 0 1;", "own 1 6 46 48;", "own 0 0 0 9;", "", "back 0;own 0 0 0 9;",
        ""};
    int[] due = {ALL, 0, ALL, 0, 2, 0, 0, 0, 0};
    for (int i = 0; i < due.length; i++) {
      Asked x = by(one[i]).and(2, two[i]);
      b.asks(x, "cross 0 1", due[i]);
      b.asks(x, "cross 1 0", due[i]);
      b.asks(x, "cross 0 0", 0);
      b.asks(x, "cross 1 1", 0);
    }
  }

  public static void main(String[] args) throws Exception {
    b = new Boundary("LedgerBoundaryTest");
    none();
    own();
    sellAndPawn();
    back();
    theDead();
    heirs();
    has();
    lawfulRounds();
    cross();
    b.close();
  }
}

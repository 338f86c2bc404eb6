import java.util.ArrayList;
import java.util.List;

/**
 * What is asked changes nothing: each of many lines is asked of a new object alone, and must be answered the same
 * behind all others, in several orders. The texts are as great and as small as may be, so that nothing may stay of
 * longer days, more houses, more musts, more deeds.
 */
public final class OrderTest {
  private static final String[] VALLEYS = {"slots 48;pace 7;light 10 40;start 3;eye 0 5 1;two 99 9 2;colour 50 8 3;"
      + "touch 20 2 5;eye 22 4 6;two 40 6 7;eye 99 9 9;colour 21 9 4;must 3 0 2;must 3 20 21;must 4 22 23;must 3 24 25;"
      + "must 5 30 31;must 3 47 48;", "slots 3;pace 9;eye 0 1 1;two 9 5 2;eye 18 0 3;"};
  private static final String[] ROUNDS = {"at 3 0 2;at 4 3 5;at 5 9 12;at 1 30 31;at 0 46 48;at 1 47 48;", "at 1 1 2;", ""};
  private static final String[] LEDGERS = {"own 4 0 5 30;own 5 0 30 40;own 1 0 0 3;pawn 4 7 0 6 9;will 4 6;sell 5 0 0 31 33;"
      + "dies 4;back 3;own 2 6 0 48;will 2 5;dies 5;dies 2;dies 7;", "own 0 0 0 3;own 1 1 0 3;back 0;"};
  private static final String[] LISTS = {"error 0 3;error 0 3;error 1 4;error 4 99;error 7 40;error 1 20;error 1 40;",
      "error 0 0;error 0 1;error 1 0;"};

  private static Asked told() {
    Asked asked = new Asked();
    for (int sort = 0; sort < 4; sort++) {
      for (String text : new String[][] {VALLEYS, ROUNDS, LEDGERS, LISTS}[sort]) {
        asked.and(sort, text);
      }
    }
    return asked;
  }

  private static void linesOfRounds(List<String> lines) {
    for (int valley = 0; valley < 2; valley++) {
      for (int round = 0; round < 4; round++) {
        String both = valley + " " + round;
        for (int what = 0; what < 6; what++) {
          lines.add("play " + both + " " + what);
        }
        for (int house = 0; house < 3; house++) {
          lines.add("rows " + both + " " + house + " " + house);
          lines.add("row " + both + " " + house + " " + (2 + 3 * round) + " " + house);
        }
        lines.add("where " + both + " " + (1 + round));
        for (int what : new int[] {0, 1, 2, 10, 12}) {
          lines.add("blame " + both + " 0 " + what);
          lines.add("blame " + both + " 1 " + what);
        }
        lines.add("lawful " + both + " 0 4 0");
        lines.add("lawful " + both + " 1 1 0");
        lines.add("lawful " + both + " -1 0 0");
      }
      lines.add("likely " + valley + " 0");
      lines.add("likely " + valley + " 1");
      lines.add("way " + valley + " 0 1 1");
      lines.add("house " + valley + " 3 2");
      lines.add("valley " + valley + " 0");
      lines.add("valley " + valley + " 15");
    }
  }

  private static void linesOfLedgers(List<String> lines) {
    for (int n = 0; n < 14; n++) {
      for (int h = 0; h < 8; h++) {
        lines.add("has 0 " + n + " " + h + " " + n % 4);
      }
      lines.add("owner 0 " + n + " 0 " + (3 + n) + " 1");
      lines.add("owner 1 " + n + " 0 1 0");
    }
    lines.add("stop 0");
    lines.add("stop 1");
    lines.add("cross 0 1");
    lines.add("cross 1 1");
    lines.add("owner -1 0 0 1 1");
  }

  private static void linesOfBest(List<String> lines) {
    for (String state : new String[] {"0 -1 0 0", "1 -1 0 0", "0 0 4 0", "1 0 4 0", "1 1 2 6", "0 0 9 6", "1 1 2 0"}) {
      for (int what = 0; what < 3; what++) {
        lines.add("best " + state + " 1 " + what);
        lines.add("best " + state + " " + (what + 2) + " " + what);
        lines.add("best " + state + " 7 " + what);
        lines.add("needs " + state + " 7 9 " + what);
        lines.add("deal " + state + " 0 1 " + what);
        lines.add("deal " + state + " 7 0 " + what);
        lines.add("soon " + state + " " + what + " 1");
        lines.add("spot " + state + " 7 " + what + " 2");
        lines.add("spot " + state + " 1 0 " + what);
        lines.add("buys " + state + " " + what + " -1");
        lines.add("buys " + state + " " + what + " -2");
        lines.add("buys " + state + " " + what + " 0");
        lines.add("harm " + state + " " + what + " 1 3 0");
        lines.add("harm " + state + " " + what + " 0 1 0");
        lines.add("harm " + state + " " + what + " 2 3 1");
        lines.add("worth " + state + " " + (what - 1) + " 1 3");
        lines.add("ease " + state + " " + what + " 2 0");
        lines.add("ease " + state + " " + what + " 2 1");
        lines.add("pays " + state + " " + what + " 0 3 100");
      }
      for (int what = 0; what < 13; what++) {
        lines.add("day " + state + " " + what);
      }
      for (int flag = 0; flag < 2; flag++) {
        lines.add("halved " + state + " " + flag);
        lines.add("home " + state + " " + flag);
        lines.add("both " + state + " " + flag);
      }
      lines.add("ways " + state);
    }
  }

  private static int gcd(int a, int b) {
    return b == 0 ? a : gcd(b, a % b);
  }

  public static void main(String[] args) {
    Telling telling = new Telling();
    List<String> lines = new ArrayList<>();
    linesOfRounds(lines);
    linesOfLedgers(lines);
    linesOfBest(lines);
    long[] alone = new long[lines.size()];
    for (int i = 0; i < alone.length; i++) {
      alone[i] = told().line(lines.get(i));
    }
    int number = lines.size();
    for (int step : new int[] {1, number - 1, 101, 211, 401}) {
      telling.due("steps of " + step + " go round to all", gcd(step, number), 1);
      Asked asked = told();
      for (int k = 0; k < number; k++) {
        int i = (int) ((long) k * step % number);
        telling.due(lines.get(i) + " by steps of " + step, asked.line(lines.get(i)), alone[i]);
      }
    }
    OnePair x = new OnePair();
    Telling.tell(x, 0, OnePair.NONE, VALLEYS[1]);
    for (int call = Telling.calls(VALLEYS[1]) + 1; call <= 512; call++) {
      telling.due("call " + call, x.both(0, OnePair.NONE, 0, 0, true), 1);
    }
    telling.close("OrderTest");
  }
}

import java.math.BigInteger;
import java.util.ArrayList;
import java.util.List;
import java.util.Random;

/**
 * Valleys of many houses and slots, whose ways are too many to go one by one: a model that solves each change
 * (a must, a slot bought, a slot barred, a pace) anew from its beginning, where the class takes shorter ways.
 */
public final class WideTest {
  private static final int NONE = -1;
  private static final long CANT = Long.MIN_VALUE;
  private static final long GAIN = 1000000;
  private static final Random RANDOM = new Random(20261120);
  private static final Telling T = new Telling();
  private static final String[] KINDS = {"touch", "eye", "two", "colour"};

  /** What was told of the valley. */
  private static int slots;
  private static int pace;
  private static int lightFrom;
  private static int lightTo;
  private static int start;
  private static final List<int[]> HOUSES = new ArrayList<>();
  private static final List<int[]> MUSTS = new ArrayList<>();
  private static Asked x;
  private static int ledger;
  private static int n;
  private static int day;

  /** The best way by given gains and musts; a value is gain * GAIN less climb. */
  private static final class Best {
    final int all;
    final int[][] gain;
    final List<List<Integer>> must = new ArrayList<>();
    int by = pace;
    int goal = NONE;
    private long[][] value;

    Best(int days, boolean cracked, int touch) {
      all = slots * days;
      gain = new int[all][HOUSES.size()];
      for (int s = 0; s < all; s++) {
        must.add(new ArrayList<>());
        int holder = x.once().owner(ledger, n, (day + s / slots) % 7, s % slots, true);
        for (int h = 0; h < HOUSES.size(); h++) {
          hold(s, h, holder, cracked, touch);
        }
      }
      for (int i = 0; i < days; i++) {
        for (int[] m : MUSTS) {
          need(m[0], i * slots + m[1], i * slots + m[2]);
        }
      }
    }

    Best() {
      this(1, false, 0);
    }

    private void hold(int s, int h, int holder, boolean cracked, int touch) {
      int[] house = HOUSES.get(h);
      boolean isTouch = house[1] == 0 || (touch >> h & 1) == 1;
      boolean dark = house[1] == 3 && (s % slots < lightFrom || s % slots >= lightTo);
      boolean may = holder == NONE || holder == h;
      gain[s][h] = isTouch || dark || !may ? 0 : cracked && house[1] > 1 ? house[2] / 2 : house[2];
    }

    /** As if a house held a slot. */
    Best give(int s, int house) {
      for (int h = 0; h < HOUSES.size(); h++) {
        hold(s, h, house, false, 0);
      }
      return this;
    }

    Best need(int h, int f, int t) {
      for (int s = f; s < t; s++) {
        must.get(s).add(h);
      }
      return this;
    }

    Best bar(int house, int f, int t) {
      for (int s = f; s < t; s++) {
        for (int h = 0; h < HOUSES.size(); h++) {
          gain[s][h] = house == NONE || house == h ? 0 : gain[s][h];
        }
      }
      return this;
    }

    private boolean canBe(int s, int h) {
      for (int m : must.get(s)) {
        if (m != h) {
          return false;
        }
      }
      return true;
    }

    /** {value, slot and house behind} of staying (b is h) or of going to b. */
    private long step(int s, int h, int b) {
      if (b == h) {
        long rest = canBe(s, h) ? value[s + 1][h] : CANT;
        return rest == CANT ? CANT : rest + gain[s][h] * GAIN;
      }
      int end = s + time(h, b, by);
      for (int i = s; i < end; i++) {
        if (i >= all || !must.get(i).isEmpty()) {
          return CANT;
        }
      }
      return value[end][b] == CANT ? CANT : value[end][b] - steps(h, b);
    }

    /** The most gain, NONE if there is no way. */
    int solve() {
      value = new long[all + 1][HOUSES.size()];
      for (int s = all; s >= 0; s--) {
        for (int h = 0; h < HOUSES.size(); h++) {
          value[s][h] = s < all ? CANT : goal == NONE || goal == h ? 0 : CANT;
          for (int b = 0; s < all && b < HOUSES.size(); b++) {
            value[s][h] = Math.max(value[s][h], step(s, h, b));
          }
        }
      }
      long most = value[0][start];
      return most == CANT ? NONE : (int) ((most + GAIN - 1) / GAIN);
    }

    int climb() {
      long most = value[0][start];
      return most == CANT ? NONE : (int) (solve() * GAIN - most);
    }

    /** For each slot {spot, where free, free from}, and last of all {where it is at the end}. */
    List<int[]> follow() {
      List<int[]> spots = new ArrayList<>();
      int h = start;
      while (spots.size() < all) {
        int s = spots.size();
        int to = h;
        if (step(s, h, h) != value[s][h]) {
          to = 0;
          while (to == h || step(s, h, to) != value[s][h]) {
            to++;
          }
        }
        int end = to == h ? s + 1 : s + time(h, to, by);
        for (int i = s; i < end; i++) {
          spots.add(new int[] {to == h ? h : NONE, to, to == h ? s : end});
        }
        h = to;
      }
      spots.add(new int[] {h});
      return spots;
    }

    BigInteger ways() {
      BigInteger[][] many = new BigInteger[all + 1][HOUSES.size()];
      for (int s = all; s >= 0; s--) {
        for (int h = 0; h < HOUSES.size(); h++) {
          many[s][h] = s == all ? BigInteger.ONE : BigInteger.ZERO;
          for (int b = 0; s < all && b < HOUSES.size(); b++) {
            long now = step(s, h, b);
            if (now != CANT && now == value[s][h]) {
              many[s][h] = many[s][h].add(many[b == h ? s + 1 : s + time(h, b, by)][b]);
            }
          }
        }
      }
      return many[0][start].min(BigInteger.valueOf(1000000000000L));
    }
  }

  private static int below(int k) {
    return RANDOM.nextInt(k);
  }

  private static int steps(int a, int b) {
    return Math.abs(HOUSES.get(a)[0] - HOUSES.get(b)[0]);
  }

  private static int time(int a, int b, int by) {
    int rest = steps(a, b) % by == 0 ? 0 : 1;
    return a == b ? 0 : Math.max(1, steps(a, b) / by + rest);
  }

  private static void due(String what, long got, long want) {
    T.due(what, got, want);
  }

  private static void tellValley() {
    HOUSES.clear();
    MUSTS.clear();
    slots = below(3) == 0 ? 48 : 1 + below(48);
    pace = below(3) == 0 ? 1 + below(99) : 3 + below(20);
    lightFrom = below(slots);
    lightTo = lightFrom + 1 + below(48 - lightFrom);
    int houses = 1 + below(8);
    start = below(houses);
    StringBuilder b = new StringBuilder();
    b.append(String.format("slots %d;pace %d;light %d %d;start %d;", slots, pace, lightFrom, lightTo, start));
    for (int h = 0; h < houses; h++) {
      int[] house = {below(below(2) == 0 ? 100 : 20), below(3) == 0 ? below(4) : 1 + below(3), below(10), below(10)};
      HOUSES.add(house);
      b.append(String.format("%s %d %d %d;", KINDS[house[1]], house[0], house[2], house[3]));
    }
    for (int k = below(2) * below(7); k > 0; k--) {
      int f = below(slots);
      int[] must = {below(houses), f, Math.min(slots, f + 1 + below(3))};
      MUSTS.add(must);
      b.append(String.format("must %d %d %d;", must[0], must[1], must[2]));
    }
    x.and(0, b.toString());
  }

  private static void tellLedger() {
    StringBuilder b = new StringBuilder();
    for (int d = 0; d < 7; d++) {
      for (int f = below(5); f < 48 && b.length() < 560;) {
        int t = Math.min(48, f + 1 + below(d == day ? 12 : 40));
        b.append(String.format("own %d %d %d %d;", below(8), d, f, t));
        f = t + below(6);
      }
    }
    String[] deeds = b.toString().split(";");
    StringBuilder first = new StringBuilder();
    for (int k = 0; k < Math.min(30, deeds.length); k++) {
      first.append(deeds[k]).append(';');
    }
    x.and(2, first.toString());
  }

  private static void compareDays() {
    int days = 1 + below(7);
    Best best = new Best(days, false, 0);
    int gain = best.solve();
    due("days gain", x.once().best(0, ledger, n, day, days, 0), gain);
    due("days climb", x.once().best(0, ledger, n, day, days, 1), gain == NONE ? NONE : best.climb());
    due("days cracked", x.once().best(0, ledger, n, day, days, 2), new Best(days, true, 0).solve());
    List<int[]> spots = gain == NONE ? null : best.follow();
    for (int i = 0; i < 60; i++) {
      int s = below(best.all);
      int want = gain == NONE ? -2 : spots.get(s)[0];
      due("days spot", x.once().spot(0, ledger, n, day, days, s / slots, s % slots), want);
    }
  }

  private static void compareOfSlots(int gain) {
    for (int i = 0; i < 12; i++) {
      int h = below(HOUSES.size());
      int f = below(slots);
      int t = f + 1 + below(Math.min(slots - f, below(4) == 0 ? 48 : 4));
      int by = new Best().need(h, f, t).solve();
      int spare = gain - new Best().bar(NONE, f, t).solve();
      int odds = below(101);
      due("harm", x.once().harm(0, ledger, n, day, h, f, t, false), by == NONE ? -2 : gain - by);
      due("worth", x.once().worth(0, ledger, n, day, h, f, t), gain - new Best().bar(h, f, t).solve());
      due("spare", x.once().worth(0, ledger, n, day, NONE, f, t), spare);
      boolean pays = by != NONE && odds * (gain - by) > 100 * spare;
      T.due("pays", x.once().pays(0, ledger, n, day, h, f, t, odds), pays);
    }
    int h = below(HOUSES.size());
    int m = 1 + below(Math.min(slots, 6));
    int least = NONE;
    int ease = NONE;
    for (int f = 0; f + m <= slots; f++) {
      int by = new Best().need(h, f, f + m).solve();
      if (by != NONE && (least == NONE || gain - by < least)) {
        least = gain - by;
        ease = f;
      }
    }
    due("ease", x.once().ease(0, ledger, n, day, h, m, false), ease);
    due("ease harm", x.once().ease(0, ledger, n, day, h, m, true), least);
  }

  private static int holder(int slot) {
    return x.once().owner(ledger, n, day, slot, true);
  }

  private static void compareDeal(int gain, int one, int two) {
    int[] deal = {NONE, NONE, 0};
    for (int f = 0; f < slots; f++) {
      for (int t = f + 1; t <= slots && holder(t - 1) == one; t++) {
        Best by = new Best();
        for (int s = f; s < t; s++) {
          by.give(s, two);
        }
        int more = by.solve() - gain;
        if (more > deal[2]) {
          deal = new int[] {f, t, more};
        }
      }
    }
    for (int what = 0; what < 3; what++) {
      due("deal " + what, x.once().deal(0, ledger, n, day, one, two, what), deal[2] == 0 ? NONE : deal[what]);
    }
  }

  private static void compareBuys(int gain, int h) {
    List<Integer> bought = new ArrayList<>();
    int most = gain;
    for (int slot = 0; slot != NONE;) {
      slot = NONE;
      for (int s = 0; s < slots; s++) {
        if (holder(s) == NONE || holder(s) == h || bought.contains(s)) {
          continue;
        }
        Best by = new Best().give(s, h);
        for (int other : bought) {
          by.give(other, h);
        }
        int now = by.solve();
        if (now > most) {
          most = now;
          slot = s;
        }
      }
      if (slot != NONE) {
        bought.add(slot);
      }
    }
    due("buys", x.once().buys(0, ledger, n, day, h, NONE), bought.size());
    due("buys gain", x.once().buys(0, ledger, n, day, h, -2), most);
    for (int k = 0; k < bought.size(); k++) {
      due("buys slot", x.once().buys(0, ledger, n, day, h, k), bought.get(k));
    }
  }

  private static int yieldBy(int touch) {
    int made = new Best(1, false, touch).solve();
    for (int h = 0; h < HOUSES.size(); h++) {
      made += HOUSES.get(h)[1] == 0 || (touch >> h & 1) == 1 ? slots * HOUSES.get(h)[2] : 0;
    }
    return made;
  }

  private static void compareDay(int gain, List<int[]> spots) {
    int dearest = NONE;
    int dear = 0;
    int idle = 0;
    Best told = new Best();
    for (int s = 0; s < slots; s++) {
      int loss = gain - new Best().bar(NONE, s, s + 1).solve();
      dearest = loss > dear ? s : dearest;
      dear = Math.max(dear, loss);
      int at = spots.get(s)[0];
      idle += at != NONE && told.gain[s][at] == 0 ? 1 : 0;
      for (int h = 0; h < HOUSES.size(); h++) {
        due("soon", x.once().soon(0, ledger, n, day, h, s), spots.get(s)[2] + time(spots.get(s)[1], h, pace));
      }
    }
    int made = yieldBy(0);
    int lesson = NONE;
    int[] both = {NONE, NONE};
    int most = made;
    for (int h = 0; h < HOUSES.size(); h++) {
      int now = yieldBy(1 << h);
      lesson = now > most ? h : lesson;
      most = Math.max(most, now);
    }
    most = made;
    for (int a = 0; a < HOUSES.size(); a++) {
      for (int b = a + 1; b < HOUSES.size(); b++) {
        int now = yieldBy(1 << a | 1 << b);
        both = now > most ? new int[] {a, b} : both;
        most = Math.max(most, now);
      }
    }
    int enough = 99;
    for (int by = 99; by > 0; by--) {
      Best slow = new Best();
      slow.by = by;
      Best swift = new Best();
      swift.by = 99;
      enough = slow.solve() == swift.solve() ? by : enough;
    }
    due("yield", x.once().day(0, ledger, n, day, 0), made);
    due("idle", x.once().day(0, ledger, n, day, 2), idle);
    due("dearest", x.once().day(0, ledger, n, day, 5), dearest);
    due("lesson", x.once().day(0, ledger, n, day, 6), lesson);
    due("enough", x.once().day(0, ledger, n, day, 7), enough);
    due("both one", x.once().both(0, ledger, n, day, false), both[0]);
    due("both two", x.once().both(0, ledger, n, day, true), both[1]);
  }

  private static void compareAll() {
    x = new Asked();
    ledger = 0;
    day = below(7);
    tellValley();
    tellLedger();
    n = below(5) == 0 ? below(x.once().stop(0) + 1) : x.once().stop(0);
    compareDays();
    Best best = new Best();
    int gain = best.solve();
    if (gain == NONE) {
      due("no best", x.once().ways(0, ledger, n, day), -2);
      due("no best to halve", x.once().halved(0, ledger, n, day, 0), NONE);
      return;
    }
    List<int[]> spots = best.follow();
    due("ways", x.once().ways(0, ledger, n, day), best.ways().longValue());
    due("last", x.once().home(0, ledger, n, day, 1), spots.get(slots)[0]);
    Best home = new Best();
    home.goal = start;
    due("home", x.once().home(0, ledger, n, day, 0), home.solve());
    compareOfSlots(gain);
    for (int i = 0; i < 3 && HOUSES.size() > 1; i++) {
      int one = Math.max(0, holder(below(slots))) % HOUSES.size();
      compareDeal(gain, one, (one + 1 + below(HOUSES.size() - 1)) % HOUSES.size());
    }
    compareBuys(gain, below(HOUSES.size()));
    compareDay(gain, spots);
  }

  public static void main(String[] args) {
    int turns = args.length > 0 ? Integer.parseInt(args[0]) : 120;
    for (int turn = 0; turn < turns; turn++) {
      compareAll();
    }
    T.close("WideTest");
  }
}

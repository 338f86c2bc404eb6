import java.util.ArrayList;
import java.util.Arrays;
import java.util.HashSet;
import java.util.List;
import java.util.Random;
import java.util.Set;

/**
 * Random valleys, rounds, ledgers and lists, told to an object and to a model that goes every way of the pair
 * one by one, as the document says it and in no clever manner; all answers of both must be the same.
 */
public final class OracleTest {
  static final int NONE = -1;

  /** A way of the pair through all slots that was gone to its end. */
  static final class Found {
    int gain;
    int climb;
    int last;
    int[] spot;
    int[] free;
    int[] goal;
  }

  /** All ways by given gains and musts; the first of the best ones is that which stays, then goes to the least. */
  static final class World {
    final Model m;
    final int slots;
    final int[][] gain;
    final int[] must;
    int pace;
    int end = NONE;
    Found best = null;
    long many = 0;
    int[] spot;
    int[] free;
    int[] goal;

    World(Model m, int[][] holders, int day, int days, boolean cracked, Set<Integer> touch) {
      this.m = m;
      slots = m.slots * days;
      gain = new int[slots][m.houses.size()];
      must = new int[slots];
      pace = m.pace;
      Arrays.fill(must, NONE);
      spot = new int[slots];
      free = new int[slots];
      goal = new int[slots];
      for (int s = 0; s < slots; s++) {
        int holder = holders[(day + s / m.slots) % 7][s % m.slots];
        for (int h = 0; h < m.houses.size(); h++) {
          boolean may = holder == NONE || holder == h;
          if (may && !touch.contains(h)) {
            gain[s][h] = m.gain(h, s % m.slots, cracked);
          }
        }
      }
      for (int i = 0; i < days; i++) {
        for (int[] k : m.musts) {
          need(k[0], i * m.slots + k[1], i * m.slots + k[2]);
        }
      }
    }

    World need(int house, int f, int t) {
      for (int s = f; s < t; s++) {
        must[s] = must[s] == NONE || must[s] == house ? house : 99;
      }
      return this;
    }

    World bar(int house, int f, int t) {
      for (int s = f; s < t; s++) {
        for (int h = 0; h < gain[s].length; h++) {
          if (house == NONE || house == h) {
            gain[s][h] = 0;
          }
        }
      }
      return this;
    }

    World go() {
      go(0, m.start, 0, 0);
      return this;
    }

    private void go(int s, int h, int gained, int climbed) {
      if (s == slots) {
        if (end == NONE || h == end) {
          take(h, gained, climbed);
        }
        return;
      }
      if (must[s] == NONE || must[s] == h) {
        spot[s] = h;
        free[s] = s;
        goal[s] = h;
        go(s + 1, h, gained + gain[s][h], climbed);
      }
      for (int b = 0; b < m.houses.size(); b++) {
        int ready = s + m.time(h, b, pace);
        if (b == h || ready > slots) {
          continue;
        }
        boolean open = true;
        for (int i = s; i < ready; i++) {
          open = open && must[i] == NONE;
        }
        if (open) {
          for (int i = s; i < ready; i++) {
            spot[i] = NONE;
            free[i] = ready;
            goal[i] = b;
          }
          go(ready, b, gained, climbed + m.steps(h, b));
        }
      }
    }

    private void take(int h, int gained, int climbed) {
      if (best != null && best.gain == gained && best.climb == climbed) {
        many++;
        return;
      }
      if (best == null || gained > best.gain || (gained == best.gain && climbed < best.climb)) {
        best = new Found();
        best.gain = gained;
        best.climb = climbed;
        best.last = h;
        best.spot = spot.clone();
        best.free = free.clone();
        best.goal = goal.clone();
        many = 1;
      }
    }

    int gain() {
      return best == null ? NONE : best.gain;
    }
  }

  static final class State {
    final int[][] owner = new int[7][48];
    final int[][] holder = new int[7][48];
    final int[] heir = new int[8];
    final boolean[] dead = new boolean[8];

    State() {
      for (int d = 0; d < 7; d++) {
        Arrays.fill(owner[d], NONE);
        Arrays.fill(holder[d], NONE);
      }
      Arrays.fill(heir, NONE);
    }
  }

  static final class Model {
    int slots = 24;
    int pace = 9;
    int lightFrom = 0;
    int lightTo = 48;
    int start = 0;
    final List<int[]> houses = new ArrayList<>();
    final List<int[]> musts = new ArrayList<>();
    final List<List<int[]>> rounds = new ArrayList<>();
    final List<List<int[]>> ledgers = new ArrayList<>();
    final List<List<int[]>> lists = new ArrayList<>();

    int steps(int a, int b) {
      return Math.abs(houses.get(a)[0] - houses.get(b)[0]);
    }

    int time(int a, int b, int by) {
      int exact = (int) Math.ceil(steps(a, b) / (double) by);
      return a == b ? 0 : Math.max(1, exact);
    }

    boolean sees(int h, int slot) {
      return houses.get(h)[1] != 3 || (slot >= lightFrom && slot < lightTo);
    }

    int rate(int h, boolean cracked) {
      int kind = houses.get(h)[1];
      int rate = houses.get(h)[2];
      return cracked && (kind == 2 || kind == 3) ? (int) Math.floor(rate / 2.0) : rate;
    }

    int gain(int h, int slot, boolean cracked) {
      return houses.get(h)[1] != 0 && sees(h, slot) ? rate(h, cracked) : 0;
    }

    /** As many deeds as can be, at most n; done[0] tells how many. */
    State state(int ledger, int n, int[] done) {
      State s = new State();
      done[0] = 0;
      if (ledger == NONE) {
        return s;
      }
      List<int[]> deeds = ledgers.get(ledger);
      Set<Integer> given = new HashSet<>();
      for (int k = 0; k < deeds.size() && k < n; k++) {
        if (!act(s, deeds, k, given)) {
          return s;
        }
        done[0]++;
      }
      return s;
    }

    private static boolean act(State s, List<int[]> deeds, int k, Set<Integer> given) {
      int[] d = deeds.get(k);
      boolean twoHouses = d[0] == 1 || d[0] == 2 || d[0] == 4;
      if (d[0] != 3 && s.dead[d[1]] || twoHouses && s.dead[d[2]]) {
        return false;
      }
      if (d[0] == 0) {
        for (int i = d[3]; i < d[4]; i++) {
          if (s.owner[d[2]][i] != NONE) {
            return false;
          }
        }
        Arrays.fill(s.owner[d[2]], d[3], d[4], d[1]);
        Arrays.fill(s.holder[d[2]], d[3], d[4], d[1]);
      } else if (d[0] == 1 || d[0] == 2) {
        for (int i = d[4]; i < d[5]; i++) {
          if (s.owner[d[3]][i] != d[1] || s.holder[d[3]][i] != d[1]) {
            return false;
          }
        }
        if (d[0] == 1) {
          Arrays.fill(s.owner[d[3]], d[4], d[5], d[2]);
        }
        Arrays.fill(s.holder[d[3]], d[4], d[5], d[2]);
      } else if (d[0] == 3) {
        if (d[1] >= k || deeds.get(d[1])[0] != 2 || !given.add(d[1])) {
          return false;
        }
        int[] p = deeds.get(d[1]);
        System.arraycopy(s.owner[p[3]], p[4], s.holder[p[3]], p[4], p[5] - p[4]);
      } else if (d[0] == 4) {
        s.heir[d[1]] = d[2];
      } else {
        die(s, d[1]);
      }
      return true;
    }

    private static void die(State s, int house) {
      s.dead[house] = true;
      Set<Integer> seen = new HashSet<>();
      int heir = s.heir[house];
      while (heir != NONE && s.dead[heir] && seen.add(heir)) {
        heir = s.heir[heir];
      }
      if (heir != NONE && s.dead[heir]) {
        heir = NONE;
      }
      for (int d = 0; d < 7; d++) {
        for (int i = 0; i < 48; i++) {
          boolean owned = s.owner[d][i] == house;
          boolean held = s.holder[d][i] == house;
          s.owner[d][i] = owned ? heir : s.owner[d][i];
          s.holder[d][i] = held ? (heir == NONE ? s.owner[d][i] : heir) : s.holder[d][i];
          s.holder[d][i] = s.owner[d][i] == NONE ? NONE : s.holder[d][i];
        }
      }
    }
  }

  // ---- random texts

  static final Random RANDOM = new Random(20261119);
  static final String[] KINDS = {"touch", "eye", "two", "colour"};
  static final String[] DEEDS = {"own", "sell", "pawn", "back", "will", "dies"};

  static int below(int n) {
    return RANDOM.nextInt(n);
  }

  static String blank() {
    return below(9) == 0 ? "\n " : " ";
  }

  static String line(String word, int... numbers) {
    StringBuilder b = new StringBuilder(word);
    for (int number : numbers) {
      b.append(blank()).append(number < 10 && below(12) == 0 ? "0" : "").append(number);
    }
    return b.append(below(9) == 0 ? " ;" : ";").append(below(9) == 0 ? "\n" : "").toString();
  }

  static String valley(Model m, int slots, int houses, int musts) {
    m.slots = slots;
    m.pace = 1 + below(20);
    m.lightFrom = below(slots);
    m.lightTo = Math.min(48, m.lightFrom + 1 + below(slots));
    m.start = below(houses);
    StringBuilder b = new StringBuilder();
    b.append(line("slots", 48)).append(line("slots", slots)).append(line("pace", m.pace));
    b.append(line("light", m.lightFrom, m.lightTo)).append(line("start", m.start));
    for (int h = 0; h < houses; h++) {
      int[] house = {below(4) == 0 ? 10 : below(40), below(4), below(10), below(5)};
      m.houses.add(house);
      b.append(line(KINDS[house[1]], house[0], house[2], house[3]));
    }
    for (int k = 0; k < musts; k++) {
      int f = below(slots);
      int[] must = {below(houses), f, f + 1 + below(Math.min(2, slots - f))};
      m.musts.add(must);
      b.append(line("must", must));
    }
    return b.toString();
  }

  static String round(Model m) {
    List<int[]> legs = new ArrayList<>();
    StringBuilder b = new StringBuilder();
    int f = below(3);
    for (int k = below(6); k > 0 && f < 47; k--) {
      int[] leg = {below(8) == 0 ? below(8) : below(m.houses.size()), f, f + 1 + below(Math.min(3, 48 - f))};
      legs.add(leg);
      b.append(line("at", leg));
      f = Math.max(0, leg[2] + below(4) - (below(9) == 0 ? 2 : 0));
    }
    m.rounds.add(legs);
    return b.toString();
  }

  static String ledger(Model m) {
    List<int[]> deeds = new ArrayList<>();
    m.ledgers.add(deeds);
    StringBuilder b = new StringBuilder();
    int houses = Math.min(8, m.houses.size() + 1);
    for (int k = below(16); k > 0; k--) {
      int[] done = {0};
      int[] deed = null;
      // a deed that can't be ends the ledger: mostly another one is drawn then
      for (int tries = 0; tries < 30; tries++) {
        deed = deed(m, houses, deeds.size());
        deeds.add(deed);
        m.state(m.ledgers.size() - 1, 99, done);
        boolean fits = done[0] == deeds.size();
        deeds.remove(deeds.size() - 1);
        if (fits || below(60) == 0) {
          break;
        }
      }
      deeds.add(deed);
      b.append(line(DEEDS[deed[0]], Arrays.copyOfRange(deed, 1, deed.length)));
    }
    return b.toString();
  }

  static int[] deed(Model m, int houses, int ahead) {
    int one = below(houses);
    int two = (one + 1 + below(houses - 1)) % houses;
    int day = below(4) == 0 ? below(7) : 0;
    int f = below(4) == 0 ? below(48) : below(m.slots);
    int t = f + 1 + below(Math.min(5, 48 - f));
    switch (below(9)) {
      case 0: case 1: case 2: return new int[] {0, one, day, f, t};
      case 3: case 4: return new int[] {1, one, two, day, f, t};
      case 5: return new int[] {2, one, two, day, f, t};
      case 6: return new int[] {3, below(Math.max(1, ahead))};
      case 7: return new int[] {4, one, two};
      default: return below(3) == 0 ? new int[] {5, one} : new int[] {0, one, day, f, t};
    }
  }

  static String list(Model m) {
    List<int[]> errors = new ArrayList<>();
    m.lists.add(errors);
    StringBuilder b = new StringBuilder();
    for (int k = below(12); k > 0; k--) {
      int[] error = {below(8) == 0 ? below(8) : below(m.houses.size()), below(5) == 0 ? below(100) : below(20)};
      errors.add(error);
      b.append(line("error", error));
    }
    return b.toString();
  }

  // ---- comparing

  static final Telling TELLING = new Telling();
  static Asked x;
  static Model m;

  static void due(String what, long got, long want) {
    TELLING.due(what, got, want);
  }

  static int odd(int n) {
    return below(25) == 0 ? below(2 * n + 3) - n - 1 : below(n);
  }

  /** Rows of a house one behind the other: {slot, 1 if wrong}. */
  static List<int[]> rowsOf(int h, int[] where) {
    List<int[]> rows = new ArrayList<>();
    int[] house = m.houses.get(h);
    for (int s = 0; s < m.slots; s++) {
      boolean right = house[1] == 0 || where[s] == h && m.sees(h, s);
      for (int i = 0; i < (right ? house[2] : house[3]); i++) {
        rows.add(new int[] {s, right ? 0 : 1});
      }
    }
    return rows;
  }

  static int[] explainedAndUntold(int[] where, List<int[]> errors, int[] byHouse) {
    int explained = 0;
    Set<Integer> toldRows = new HashSet<>();
    for (int[] e : errors) {
      List<int[]> rows = e[0] < m.houses.size() ? rowsOf(e[0], where) : new ArrayList<>();
      if (e[1] < rows.size() && rows.get(e[1])[1] == 1) {
        explained++;
        toldRows.add(e[0] * 1000 + e[1]);
        int at = where[rows.get(e[1])[0]];
        if (at != NONE) {
          byHouse[at]++;
        }
      }
    }
    int wrong = 0;
    for (int h = 0; h < m.houses.size(); h++) {
      for (int[] row : rowsOf(h, where)) {
        wrong += row[1];
      }
    }
    return new int[] {explained, wrong - toldRows.size()};
  }

  /** Where the pair is by a round; the two behind tell STOP and CLIMB. */
  static int[] gone(List<int[]> legs) {
    int[] where = new int[m.slots + 2];
    int at = m.start;
    int now = 0;
    int behind = 0;
    int k = 0;
    for (; k < legs.size(); k++) {
      int[] leg = legs.get(k);
      if (leg[0] >= m.houses.size() || leg[2] > m.slots) {
        break;
      }
      int time = m.time(at, leg[0], m.pace);
      if (behind + time > leg[1]) {
        break;
      }
      while (now < leg[1] - time) {
        where[now++] = at;
      }
      while (now < leg[1]) {
        where[now++] = NONE;
      }
      where[m.slots + 1] += m.steps(at, leg[0]);
      at = leg[0];
      behind = leg[2];
    }
    while (now < m.slots) {
      where[now++] = at;
    }
    where[m.slots] = k;
    return where;
  }

  static void compareRound(int r) {
    int[] where = gone(m.rounds.get(r));
    int right = 0;
    int cracked = 0;
    int wrong = 0;
    for (int h = 0; h < m.houses.size(); h++) {
      List<int[]> rows = rowsOf(h, where);
      int first = NONE;
      int bad = 0;
      Set<Integer> slots = new HashSet<>();
      for (int n = 0; n < rows.size(); n++) {
        int[] row = rows.get(n);
        due("row slot", x.once().row(0, r, h, n, 0), row[0]);
        due("row wrong", x.once().row(0, r, h, n, 1), row[1]);
        due("row where", x.once().row(0, r, h, n, 2), where[row[0]]);
        if (row[1] == 1) {
          first = first == NONE ? n : first;
          bad++;
          slots.add(row[0]);
        }
      }
      due("no row", x.once().row(0, r, h, rows.size(), 0), -2);
      due("rows", x.once().rows(0, r, h, 0), rows.size());
      due("rows wrong", x.once().rows(0, r, h, 1), bad);
      due("rows first", x.once().rows(0, r, h, 2), first);
      due("rows slots", x.once().rows(0, r, h, 3), slots.size());
      right += rows.size() - bad;
      wrong += bad;
      for (int s = 0; s < m.slots; s++) {
        boolean sees = m.houses.get(h)[1] == 0 || where[s] == h && m.sees(h, s);
        cracked += sees ? m.rate(h, true) : 0;
      }
    }
    for (int s = 0; s < m.slots; s++) {
      due("where", x.once().where(0, r, s), where[s]);
    }
    int[] play = {where[m.slots], right, wrong, where[m.slots + 1], cracked, wrong};
    for (int what = 0; what < play.length; what++) {
      due("play " + what, x.once().play(0, r, what), play[what]);
    }
  }

  static void compareBlame() {
    for (int l = 0; l < m.lists.size(); l++) {
      int likely = NONE;
      int[] most = {-1, 0};
      for (int r = 0; r < m.rounds.size(); r++) {
        int[] where = gone(m.rounds.get(r));
        int[] byHouse = new int[8];
        int[] now = explainedAndUntold(where, m.lists.get(l), byHouse);
        due("explained", x.once().blame(0, r, l, 0), now[0]);
        due("untold", x.once().blame(0, r, l, 1), now[1]);
        int culprit = NONE;
        for (int h = 7; h >= 0; h--) {
          if (byHouse[h] > 0 && (culprit == NONE || byHouse[h] >= byHouse[culprit])) {
            culprit = h;
          }
        }
        due("culprit", x.once().blame(0, r, l, 2), culprit);
        for (int k = 0; k < m.lists.get(l).size(); k++) {
          int[] e = m.lists.get(l).get(k);
          List<int[]> rows = e[0] < m.houses.size() ? rowsOf(e[0], where) : new ArrayList<>();
          due("made", x.once().blame(0, r, l, 10 + k), e[1] < rows.size() ? rows.get(e[1])[0] : NONE);
        }
        if (now[0] > most[0] || now[0] == most[0] && now[1] < most[1]) {
          most = now;
          likely = r;
        }
      }
      due("likely", x.once().likely(0, l), likely);
    }
  }

  static void compareLedger(int l) {
    int[] done = {0};
    m.state(l, 99, done);
    int stop = done[0];
    due("stop", x.once().stop(l), stop);
    for (int n = -1; n <= stop + 1; n++) {
      State s = m.state(l, n, done);
      boolean is = n >= 0 && n <= stop;
      for (int h = 0; h < 8; h++) {
        int owns = 0;
        int holds = 0;
        for (int d = 0; d < 7; d++) {
          for (int i = 0; i < 48; i++) {
            owns += s.owner[d][i] == h ? 1 : 0;
            holds += s.holder[d][i] == h ? 1 : 0;
          }
        }
        due("has 0", x.once().has(l, n, h, 0), is ? owns : -2);
        due("has 1", x.once().has(l, n, h, 1), is ? holds : -2);
        due("has 2", x.once().has(l, n, h, 2), is ? s.heir[h] : -2);
        due("has 3", x.once().has(l, n, h, 3), is ? s.dead[h] ? 1 : 0 : -2);
      }
      for (int tries = 0; tries < 20; tries++) {
        int d = below(7);
        int i = below(48);
        due("owner", x.once().owner(l, n, d, i, false), is ? s.owner[d][i] : -2);
        due("holder", x.once().owner(l, n, d, i, true), is ? s.holder[d][i] : -2);
      }
      for (int r = 0; r < m.rounds.size(); r++) {
        int day = below(7);
        List<int[]> legs = m.rounds.get(r);
        int stopped = gone(legs)[m.slots];
        int first = NONE;
        for (int k = stopped - 1; k >= 0; k--) {
          for (int i = legs.get(k)[1]; i < legs.get(k)[2]; i++) {
            int holder = s.holder[day][i];
            first = holder != NONE && holder != legs.get(k)[0] ? k : first;
          }
        }
        due("lawful", x.once().lawful(0, r, l, n, day), is ? first : -2);
      }
    }
  }

  static final Set<Integer> NO_TOUCH = new HashSet<>();

  static World world(State s, int day) {
    return new World(m, s.holder, day, 1, false, NO_TOUCH);
  }

  static void compareBest(int l, int n, State s, int day) {
    World w = world(s, day).go();
    int gain = w.gain();
    World broken = new World(m, s.holder, day, 1, true, NO_TOUCH).go();
    due("best 0", x.once().best(0, l, n, day, 1, 0), gain);
    due("best 1", x.once().best(0, l, n, day, 1, 1), w.best == null ? NONE : w.best.climb);
    due("best 2", x.once().best(0, l, n, day, 1, 2), broken.gain());
    due("ways", x.once().ways(0, l, n, day), w.best == null ? -2 : w.many);
    for (int i = 0; i < m.slots; i++) {
      due("spot", x.once().spot(0, l, n, day, 1, 0, i), w.best == null ? -2 : w.best.spot[i]);
      int h = below(m.houses.size());
      int want = w.best == null ? -2 : w.best.free[i] + m.time(w.best.goal[i], h, m.pace);
      due("soon", x.once().soon(0, l, n, day, h, i), want);
    }
    World ending = world(s, day);
    ending.end = m.start;
    due("home 0", x.once().home(0, l, n, day, 0), w.best == null ? -2 : ending.go().gain());
    due("home 1", x.once().home(0, l, n, day, 1), w.best == null ? -2 : w.best.last);
    compareHalved(l, n, s, day);
    compareNeeds(l, n, s, day, w);
    compareTrade(l, n, s, day, gain);
    compareDay(l, n, s, day, w);
  }

  static void compareDays(int l, int n, State s) {
    int days = 2 + below(2);
    int day = below(7);
    World w = new World(m, s.holder, day, days, false, NO_TOUCH).go();
    due("days 0", x.once().best(0, l, n, day, days, 0), w.gain());
    due("days 1", x.once().best(0, l, n, day, days, 1), w.best == null ? NONE : w.best.climb);
    for (int i = 0; i < m.slots * days; i++) {
      int got = x.once().spot(0, l, n, day, days, i / m.slots, i % m.slots);
      due("days spot", got, w.best == null ? -2 : w.best.spot[i]);
    }
  }

  static void compareHalved(int l, int n, State s, int day) {
    World all = world(s, day);
    World eyes = world(s, day);
    Arrays.fill(all.must, NONE);
    Arrays.fill(eyes.must, NONE);
    for (int h = 0; h < m.houses.size(); h++) {
      if (m.houses.get(h)[1] != 1) {
        eyes.bar(h, 0, m.slots);
      }
    }
    int twice = 2 * eyes.go().gain();
    boolean isBest = world(s, day).go().best != null;
    due("halved 0", x.once().halved(0, l, n, day, 0), isBest ? twice : NONE);
    due("halved 1", x.once().halved(0, l, n, day, 1), !isBest ? NONE : twice > all.go().gain() ? 1 : 0);
  }

  static int harm(State s, int day, int gain, int h, int f, int t) {
    int now = world(s, day).need(h, f, t).go().gain();
    return now == NONE ? NONE : gain - now;
  }

  static void compareNeeds(int l, int n, State s, int day, World w) {
    int houses = m.houses.size();
    for (int h = 0; h < houses; h++) {
      int f = below(m.slots);
      int t = f + 1 + below(m.slots - f);
      int harm = w.best == null ? NONE : harm(s, day, w.gain(), h, f, t);
      due("harm", x.once().harm(0, l, n, day, h, f, t, false), harm == NONE ? -2 : harm);
      due("lender", x.once().harm(0, l, n, day, h, f, t, true), w.best == null ? -2 : w.best.spot[f]);
      int worth = w.best == null ? -2 : w.gain() - world(s, day).bar(h, f, t).go().gain();
      due("worth", x.once().worth(0, l, n, day, h, f, t), worth);
      int spare = w.best == null ? -2 : w.gain() - world(s, day).bar(NONE, f, t).go().gain();
      due("spare", x.once().worth(0, l, n, day, NONE, f, t), spare);
      int odds = below(101);
      boolean pays = harm != NONE && odds * harm > 100 * spare;
      due("pays", x.once().pays(0, l, n, day, h, f, t, odds) ? 1 : 0, pays ? 1 : 0);
      int size = 1 + below(m.slots);
      int least = NONE;
      int at = NONE;
      for (int i = m.slots - size; w.best != null && i >= 0; i--) {
        int now = harm(s, day, w.gain(), h, i, i + size);
        if (now != NONE && (least == NONE || now <= least)) {
          least = now;
          at = i;
        }
      }
      due("ease", x.once().ease(0, l, n, day, h, size, false), w.best == null ? -2 : at);
      due("ease harm", x.once().ease(0, l, n, day, h, size, true), w.best == null ? -2 : least);
    }
    int seed = RANDOM.nextInt();
    int k = 1 + below(9);
    int[] needs = new int[3];
    int[] draw = {seed};
    for (int i = 0; w.best != null && i < k; i++) {
      int h = next(draw, houses);
      int f = next(draw, m.slots);
      int t = Math.min(m.slots, f + next(draw, 3) + 1);
      int harm = harm(s, day, w.gain(), h, f, t);
      needs[0] += harm == NONE ? 0 : harm;
      needs[1] += harm == NONE ? 1 : 0;
      needs[2] = Math.max(needs[2], harm);
    }
    for (int what = 0; what < 3; what++) {
      due("needs " + what, x.once().needs(0, l, n, day, seed, k, what), w.best == null ? -2 : needs[what]);
    }
  }

  static int next(int[] draw, int n) {
    long x = ((draw[0] & 0xffffffffL) * 1103515245L + 12345L) & 0xffffffffL;
    draw[0] = (int) x;
    return (int) ((x >> 16) % n);
  }

  static void compareTrade(int l, int n, State s, int day, int gain) {
    int[] now = s.holder[day];
    int[] kept = now.clone();
    for (int one = 0; one < m.houses.size(); one++) {
      int two = (one + 1) % m.houses.size();
      int[] deal = {NONE, NONE, 0};
      for (int f = 0; gain != NONE && one != two && f < m.slots; f++) {
        for (int t = f + 1; t <= m.slots && now[t - 1] == one; t++) {
          Arrays.fill(now, f, t, two);
          int more = world(s, day).go().gain() - gain;
          System.arraycopy(kept, 0, now, 0, 48);
          if (more > deal[2]) {
            deal = new int[] {f, t, more};
          }
        }
      }
      for (int what = 0; what < 3; what++) {
        due("deal " + what, x.once().deal(0, l, n, day, one, two, what), deal[2] == 0 ? NONE : deal[what]);
      }
    }
    int h = below(m.houses.size());
    List<Integer> bought = new ArrayList<>();
    int most = gain;
    for (boolean goesOn = gain != NONE; goesOn;) {
      int best = most;
      int slot = NONE;
      for (int i = 0; i < m.slots; i++) {
        int holder = now[i];
        if (holder != NONE && holder != h) {
          now[i] = h;
          int got = world(s, day).go().gain();
          now[i] = holder;
          if (got > best) {
            best = got;
            slot = i;
          }
        }
      }
      goesOn = slot != NONE;
      if (goesOn) {
        now[slot] = h;
        bought.add(slot);
        most = best;
      }
    }
    System.arraycopy(kept, 0, now, 0, 48);
    due("buys", x.once().buys(0, l, n, day, h, NONE), gain == NONE ? -2 : bought.size());
    due("buys gain", x.once().buys(0, l, n, day, h, -2), gain == NONE ? -2 : most);
    for (int k = 0; k < bought.size(); k++) {
      due("buys slot", x.once().buys(0, l, n, day, h, k), bought.get(k));
    }
    due("buys no more", x.once().buys(0, l, n, day, h, bought.size()), -2);
  }

  static int yieldOf(State s, int day, Set<Integer> touch) {
    int sum = new World(m, s.holder, day, 1, false, touch).go().gain();
    for (int h = 0; h < m.houses.size(); h++) {
      sum += m.houses.get(h)[1] == 0 || touch.contains(h) ? m.houses.get(h)[2] * m.slots : 0;
    }
    return sum;
  }

  static void compareDay(int l, int n, State s, int day, World w) {
    if (w.best == null) {
      for (int what = 0; what < 18; what++) {
        due("day none", x.once().day(0, l, n, day, what), -2);
      }
      due("both none", x.once().both(0, l, n, day, false), -2);
      return;
    }
    int yield = yieldOf(s, day, NO_TOUCH);
    int spoiled = 0;
    int idle = 0;
    int road = 0;
    int longest = 0;
    int dearest = NONE;
    int dear = 0;
    int[] stay = new int[m.houses.size()];
    for (int i = 0; i < m.slots; i++) {
      int at = w.best.spot[i];
      int holder = s.holder[day][i];
      for (int h = 0; h < m.houses.size(); h++) {
        boolean may = holder == NONE || holder == h;
        boolean right = m.houses.get(h)[1] == 0 || at == h && m.sees(h, i) && may;
        spoiled += right ? 0 : m.houses.get(h)[3];
      }
      road += at == NONE ? 1 : 0;
      if (at != NONE) {
        stay[at]++;
        idle += w.gain[i][at] == 0 ? 1 : 0;
        int j = i;
        while (j < m.slots && w.best.spot[j] == at) {
          j++;
        }
        longest = Math.max(longest, j - i);
      }
      int loss = w.gain() - world(s, day).bar(NONE, i, i + 1).go().gain();
      if (loss > dear) {
        dear = loss;
        dearest = i;
      }
    }
    int lesson = NONE;
    int first = NONE;
    int second = NONE;
    int bestOne = yield;
    int bestTwo = yield;
    for (int a = 0; a < m.houses.size(); a++) {
      int one = yieldOf(s, day, Set.of(a));
      if (one > bestOne) {
        bestOne = one;
        lesson = a;
      }
      for (int b = a + 1; b < m.houses.size(); b++) {
        int two = yieldOf(s, day, Set.of(a, b));
        if (two > bestTwo) {
          bestTwo = two;
          first = a;
          second = b;
        }
      }
    }
    int enough = 99;
    for (int pace = 99; pace > 0; pace--) {
      World by = world(s, day);
      by.pace = pace;
      World swift = world(s, day);
      swift.pace = 99;
      enough = by.go().gain() == swift.go().gain() ? pace : enough;
    }
    int[] want = {yield, spoiled, idle, road, longest, dearest, lesson, enough};
    for (int what = 0; what < want.length; what++) {
      due("day " + what, x.once().day(0, l, n, day, what), want[what]);
    }
    for (int h = 0; h < m.houses.size(); h++) {
      due("day stay", x.once().day(0, l, n, day, 10 + h), stay[h]);
    }
    due("both first", x.once().both(0, l, n, day, false), first);
    due("both second", x.once().both(0, l, n, day, true), second);
  }

  static void compareTold() {
    due("slots", x.once().valley(0, 0), m.slots);
    due("pace", x.once().valley(0, 1), m.pace);
    due("light", x.once().valley(0, 2), m.lightFrom);
    due("dark", x.once().valley(0, 3), m.lightTo);
    due("start", x.once().valley(0, 4), m.start);
    due("houses", x.once().valley(0, 5), m.houses.size());
    due("musts", x.once().valley(0, 6), m.musts.size());
    for (int k = 0; k < m.musts.size(); k++) {
      for (int i = 0; i < 3; i++) {
        due("must", x.once().valley(0, 10 + 10 * i + k), m.musts.get(k)[i]);
      }
    }
    for (int h = 0; h < m.houses.size(); h++) {
      for (int i = 0; i < 4; i++) {
        due("house", x.once().house(0, h, i), m.houses.get(h)[i]);
      }
      for (int b = 0; b < m.houses.size(); b++) {
        due("steps", x.once().way(0, h, b, false), m.steps(h, b));
        due("way", x.once().way(0, h, b, true), m.time(h, b, m.pace));
      }
    }
    for (int r = 0; r < m.rounds.size(); r++) {
      due("legs", x.once().leg(r, NONE, 0), m.rounds.get(r).size());
      for (int k = 0; k < m.rounds.get(r).size(); k++) {
        for (int i = 0; i < 3; i++) {
          due("leg", x.once().leg(r, k, i), m.rounds.get(r).get(k)[i]);
        }
      }
    }
    for (int l = 0; l < m.ledgers.size(); l++) {
      due("deeds", x.once().deed(l, NONE, 0), m.ledgers.get(l).size());
      for (int k = 0; k < m.ledgers.get(l).size(); k++) {
        int[] deed = m.ledgers.get(l).get(k);
        for (int i = 0; i < 6; i++) {
          due("deed", x.once().deed(l, k, i), i < deed.length ? deed[i] : NONE);
        }
      }
    }
    for (int l = 0; l < m.lists.size(); l++) {
      due("errors", x.once().error(l, NONE, 0), m.lists.get(l).size());
      for (int k = 0; k < m.lists.get(l).size(); k++) {
        due("error house", x.once().error(l, k, 0), m.lists.get(l).get(k)[0]);
        due("error row", x.once().error(l, k, 1), m.lists.get(l).get(k)[1]);
      }
    }
  }

  static void compareAll(int slots, int houses, int musts, boolean dear) {
    x = new Asked();
    m = new Model();
    x.and(0, valley(m, slots, houses, musts));
    for (int i = 0; i < 3; i++) {
      x.and(1, round(m));
    }
    for (int i = 0; i < 2; i++) {
      x.and(2, ledger(m));
      x.and(3, list(m));
    }
    compareTold();
    for (int r = 0; r < 3; r++) {
      compareRound(r);
    }
    compareBlame();
    for (int l = 0; l < 2; l++) {
      compareLedger(l);
    }
    compareCross();
    int[] done = {0};
    for (int l = -1; dear && l < 2; l++) {
      State s = m.state(l, 99, done);
      int n = done[0];
      compareBest(l, n, s, below(3) == 0 ? below(7) : 0);
      if (slots < 4) {
        compareDays(l, n, s);
      }
    }
  }

  static void compareCross() {
    int[] done = {0};
    State a = m.state(0, 99, done);
    State b = m.state(1, 99, done);
    int unlike = 0;
    for (int d = 0; d < 7; d++) {
      for (int i = 0; i < 48; i++) {
        unlike += a.holder[d][i] == b.holder[d][i] ? 0 : 1;
      }
    }
    due("cross", x.once().cross(0, 1), unlike);
    due("cross back", x.once().cross(1, 0), unlike);
    due("cross self", x.once().cross(1, 1), 0);
  }

  public static void main(String[] args) {
    int turns = args.length > 0 ? Integer.parseInt(args[0]) : 400;
    for (int turn = 0; turn < turns; turn++) {
      int houses = 1 + below(4);
      compareAll(1 + below(houses > 3 ? 5 : 6), houses, below(3) == 0 ? 1 + below(3) : 0, true);
      compareAll(1 + below(48), 1 + below(8), below(7), false);
    }
    TELLING.close("OracleTest");
  }
}

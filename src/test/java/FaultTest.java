import java.util.ArrayList;
import java.util.List;
import java.util.Map;
import java.util.Random;
import java.util.regex.Matcher;
import java.util.regex.Pattern;

/** Random texts, many of them spoiled, read by the class and by regular expressions: the same FAULTS and places. */
public final class FaultTest {
  private static final Random RANDOM = new Random(7);
  private static final Telling TELLING = new Telling();
  private static final Pattern TOKEN = Pattern.compile("[ \\n]*(?:([a-z]+)|([0-9]+)|(;)|(.)|())", Pattern.DOTALL);

  /** Words of each sort with what their numbers are: least-most, f, t, or ! (another one than the number ahead). */
  private static final List<Map<String, String>> LINES = List.of(
      Map.of("slots", "1-48", "pace", "1-99", "light", "f t", "start", "0-7", "touch", "0-99 0-9 0-9",
          "eye", "0-99 0-9 0-9", "two", "0-99 0-9 0-9", "colour", "0-99 0-9 0-9", "must", "0-7 f t"),
      Map.of("at", "0-7 f t"),
      Map.of("own", "0-7 0-6 f t", "sell", "0-7 ! 0-6 f t", "pawn", "0-7 ! 0-6 f t", "back", "0-29", "will", "0-7 !",
          "dies", "0-7"),
      Map.of("error", "0-7 0-99"));

  private static final class Read {
    int syntax = -1;
    int fault = 0;
    int place = -1;
    int rows = 0;
    int houses = 0;
    int musts = 0;
    int slots = 24;
    int start = 0;
    int mustHouse = -1;
    int mustEnd = 0;

    void note(int newFault, int newPlace) {
      if (fault == 0) {
        fault = newFault;
        place = newPlace;
      }
    }
  }

  private static int below(int n) {
    return RANDOM.nextInt(n);
  }

  private static boolean canBe(String range, int number, int ahead) {
    if (range.equals("f")) {
      return number <= 47;
    }
    if (range.equals("t")) {
      return number >= 1 && number <= 48 && number > ahead;
    }
    if (range.equals("!")) {
      return number <= 7 && number != ahead;
    }
    String[] ends = range.split("-");
    return number >= Integer.parseInt(ends[0]) && number <= Integer.parseInt(ends[1]);
  }

  /** {kind (w, n, ;, ? or $), text, place} of all tokens. */
  private static List<String[]> tokens(String text) {
    List<String[]> all = new ArrayList<>();
    Matcher m = TOKEN.matcher(text);
    int from = 0;
    while (m.find(from)) {
      int group = 1;
      while (m.group(group) == null) {
        group++;
      }
      String token = m.group(group);
      String kind = new String[] {"w", token.length() > 2 ? "?" : "n", ";", "?", "$"}[group - 1];
      all.add(new String[] {kind, token, "" + m.start(group)});
      from = m.end();
      if (group == 5) {
        break;
      }
    }
    return all;
  }

  private static Read read(int sort, String text) {
    Read r = new Read();
    List<String[]> tokens = tokens(text);
    int i = 0;
    while (!tokens.get(i)[0].equals("$")) {
      String spec = tokens.get(i)[0].equals("w") ? LINES.get(sort).get(tokens.get(i)[1]) : null;
      if (spec == null) {
        r.syntax = Integer.parseInt(tokens.get(i)[2]);
        return r;
      }
      String[] ranges = spec.split(" ");
      int[] numbers = new int[ranges.length];
      for (int k = 0; k <= ranges.length; k++) {
        String[] token = tokens.get(i + 1 + k);
        if (!token[0].equals(k < ranges.length ? "n" : ";")) {
          r.syntax = Integer.parseInt(token[2]);
          return r;
        }
        if (k < ranges.length) {
          numbers[k] = Integer.parseInt(token[1]);
        }
      }
      count(r, sort, tokens.get(i));
      for (int k = 0; k < ranges.length; k++) {
        if (!canBe(ranges[k], numbers[k], k == 0 ? -1 : numbers[k - 1])) {
          r.note(2, Integer.parseInt(tokens.get(i + 1 + k)[2]));
        }
      }
      keep(r, tokens.get(i)[1], numbers);
      i += ranges.length + 2;
    }
    if (sort == 0 && (r.start >= r.houses || r.mustHouse >= r.houses || r.mustEnd > r.slots)) {
      r.note(4, text.length());
    }
    return r;
  }

  private static void count(Read r, int sort, String[] token) {
    int place = Integer.parseInt(token[2]);
    if (sort > 0) {
      r.rows++;
      if (r.rows > new int[] {0, 16, 30, 20}[sort]) {
        r.note(3, place);
      }
    } else if (token[1].equals("must")) {
      r.musts++;
      if (r.musts > 6) {
        r.note(3, place);
      }
    } else if (LINES.get(0).get(token[1]).startsWith("0-99")) {
      r.houses++;
      if (r.houses > 8) {
        r.note(3, place);
      }
    }
  }

  private static void keep(Read r, String word, int[] numbers) {
    if (word.equals("slots")) {
      r.slots = numbers[0];
    } else if (word.equals("start")) {
      r.start = numbers[0];
    } else if (word.equals("must")) {
      r.mustHouse = Math.max(r.mustHouse, numbers[0]);
      r.mustEnd = Math.max(r.mustEnd, numbers[2]);
    }
  }

  private static int number(String range, int ahead) {
    if (below(70) == 0) {
      return below(100);
    }
    if (range.equals("f")) {
      return below(10) == 0 ? 47 : below(40);
    }
    if (range.equals("t")) {
      return below(30) == 0 ? below(50) : ahead + 1 + below(3);
    }
    if (range.equals("!")) {
      return below(30) == 0 ? below(9) : (ahead + 1 + below(7)) % 8;
    }
    String[] ends = range.split("-");
    int least = Integer.parseInt(ends[0]);
    return least + below(Integer.parseInt(ends[1]) - least + 1);
  }

  private static String text(int sort) {
    StringBuilder b = new StringBuilder();
    List<String> words = new ArrayList<>(LINES.get(sort).keySet());
    words.sort(null);
    int lines = below(4) == 0 ? below(35) : below(10);
    for (int i = 0; i < lines; i++) {
      String word = words.get(below(words.size()));
      if (sort == 0 && i == 0) {
        word = "eye";
      }
      b.append(below(8) == 0 ? " " : "").append(word);
      int ahead = -1;
      for (String range : LINES.get(sort).get(word).split(" ")) {
        ahead = word.equals("start") || word.equals("must") && ahead < 0 ? below(2) : number(range, ahead);
        b.append(below(8) == 0 ? "\n" : " ").append(ahead < 10 && below(20) == 0 ? "0" : "").append(ahead);
      }
      b.append(below(15) == 0 ? " ;" : ";");
    }
    if (below(2) == 0) {
      spoil(b);
    }
    return b.substring(0, Math.min(b.length(), 600));
  }

  private static void spoil(StringBuilder b) {
    for (int times = 1 + below(2); times > 0 && b.length() > 0; times--) {
      int at = below(b.length());
      switch (below(5)) {
        case 0: b.deleteCharAt(at); break;
        case 1: b.insert(at, (char) below(256)); break;
        case 2: b.setCharAt(at, "0123456789;ae \n".charAt(below(15))); break;
        case 3: b.setLength(at); break;
        default: b.insert(at, b.charAt(below(b.length()))); break;
      }
    }
  }

  public static void main(String[] args) {
    int[] seen = new int[5];
    for (int turn = 0; turn < 20000; turn++) {
      int sort = below(4);
      String text = text(sort);
      Read want = read(sort, text);
      int fault = want.syntax >= 0 ? 1 : want.fault;
      int place = want.syntax >= 0 ? want.syntax : want.place;
      OnePair x = new OnePair();
      TELLING.due("text of " + sort + ": " + text, Telling.tell(x, sort, -1, text), fault == 0 ? 0 : -1);
      TELLING.due("fault of " + sort + ": " + text, x.fault(0), fault);
      TELLING.due("place of " + sort + ": " + text, x.fault(1), place);
      seen[fault]++;
    }
    for (int fault = 0; fault < 5; fault++) {
      TELLING.due("fault " + fault + " was seen often", seen[fault] > 300, true);
    }
    TELLING.close("FaultTest");
  }
}

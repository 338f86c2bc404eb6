import java.lang.reflect.Method;
import java.lang.reflect.Modifier;
import java.util.ArrayList;
import java.util.Comparator;
import java.util.List;
import java.util.Random;

/** Every method by any numbers, in many states: nothing is thrown, and two objects always answer the same. */
public final class WildTest {
  private static final Random RANDOM = new Random(99);
  private static final int[] ODD = {-1, -2, -3, 0, 1, 2, 3, 5, 6, 7, 8, 9, 10, 17, 20, 23, 24, 29, 30, 39, 40, 47, 48,
      49, 99, 100, 101, 255, 600, 601, 1000, Integer.MAX_VALUE, Integer.MIN_VALUE, Integer.MAX_VALUE - 1};
  private static final String[] VALLEYS = {"eye 0 1 1;", "slots 48;pace 1;" + "colour 99 9 9;two 0 9 9;".repeat(4)
      + "start 7;light 47 48;must 7 0 1;must 0 47 48;", "slots 1;touch 5 9 0;eye 5 9 9;must 1 0 1;",
      "slots 48;pace 99;" + "two 9 9 9;eye 0 9 9;".repeat(4)};
  private static final String[] ROUNDS = {"", "at 0 0 48;", "at 1 47 48;", "at 7 0 1;at 0 1 2;at 7 3 4;"};
  private static final String[] LEDGERS = {"", "own 0 0 0 48;own 7 6 0 48;pawn 0 7 0 1 47;",
      "own 1 0 0 9;own 2 0 9 20;own 3 0 20 48;will 1 2;will 2 1;dies 1;dies 2;", "back 0;", "dies 7;own 7 0 0 1;"};
  private static final String[] LISTS = {"", "error 7 99;error 0 0;error 1 1;", "error 0 0;".repeat(20)};

  private static int number(int most) {
    int kind = RANDOM.nextInt(8);
    if (kind == 0) {
      return RANDOM.nextInt();
    }
    return kind < 3 ? ODD[RANDOM.nextInt(ODD.length)] : RANDOM.nextInt(most);
  }

  /** How many calls of each that took. */
  private static int tellBoth(OnePair x, OnePair y) {
    int calls = 0;
    String[][] texts = {VALLEYS, ROUNDS, LEDGERS, LISTS};
    for (int sort = 0; sort < 4; sort++) {
      for (int i = RANDOM.nextInt(3); i > 0; i--) {
        String text = texts[sort][RANDOM.nextInt(texts[sort].length)];
        calls += Telling.calls(text);
        if (Telling.tell(x, sort, -1, text) != Telling.tell(y, sort, -1, text)) {
          throw new IllegalStateException("told otherwise: " + text);
        }
      }
    }
    return calls;
  }

  public static void main(String[] args) throws Exception {
    Telling telling = new Telling();
    List<Method> methods = new ArrayList<>();
    for (Method m : OnePair.class.getDeclaredMethods()) {
      if (Modifier.isPublic(m.getModifiers())) {
        methods.add(m);
      }
    }
    methods.sort(Comparator.comparing(Method::getName));
    telling.due("methods", methods.size(), 39);
    for (int turn = 0; turn < 300; turn++) {
      OnePair x = new OnePair();
      OnePair y = new OnePair();
      for (int call = tellBoth(x, y); call < 512; call++) {
        Method m = methods.get(RANDOM.nextInt(methods.size()));
        Object[] numbers = new Object[m.getParameterCount()];
        for (int i = 0; i < numbers.length; i++) {
          boolean isBoolean = m.getParameterTypes()[i] == boolean.class;
          numbers[i] = isBoolean ? (Object) RANDOM.nextBoolean() : (Object) number(i < 3 ? 2 : 9);
        }
        Object one = m.invoke(x, numbers);
        telling.due(m.getName() + " answers the same", one.equals(m.invoke(y, numbers)), true);
      }
    }
    telling.close("WildTest");
  }
}

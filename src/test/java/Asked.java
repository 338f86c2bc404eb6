import java.lang.reflect.Method;
import java.lang.reflect.Modifier;
import java.util.ArrayList;
import java.util.HashMap;
import java.util.List;
import java.util.Map;

/**
 * An object to which some texts are told, asked by the names of its methods. Nothing is promised behind the 512th
 * call of an object, so another one is made and told the same ahead of it: only what changes nothing may be asked.
 */
final class Asked {
  private static final int CALLS = 512;
  private static final Map<String, Method> METHODS = new HashMap<>();

  private final List<Integer> sorts = new ArrayList<>();
  private final List<String> texts = new ArrayList<>();
  private OnePair x = new OnePair();
  private int calls = 0;

  static {
    for (Method m : OnePair.class.getDeclaredMethods()) {
      if (Modifier.isPublic(m.getModifiers())) {
        METHODS.put(m.getName(), m);
      }
    }
  }

  /** null: none of that sort. */
  static Asked of(String valley, String round, String ledger, String list) {
    Asked asked = new Asked();
    String[] all = {valley, round, ledger, list};
    for (int sort = 0; sort < 4; sort++) {
      if (all[sort] != null) {
        asked.and(sort, all[sort]);
      }
    }
    return asked;
  }

  /** Tells a further text, which must be taken. */
  Asked and(int sort, String text) {
    sorts.add(sort);
    texts.add(text);
    tell(sort, text);
    return this;
  }

  private void tell(int sort, String text) {
    if (Telling.tell(x, sort, OnePair.NONE, text) < 0) {
      throw new IllegalStateException("refused: " + text);
    }
    calls += Telling.calls(text);
  }

  /** The object, for one call. */
  OnePair once() {
    if (calls >= CALLS) {
      x = new OnePair();
      calls = 0;
      for (int i = 0; i < texts.size(); i++) {
        tell(sorts.get(i), texts.get(i));
      }
    }
    calls++;
    return x;
  }

  /** An answer; false and true count 0 and 1, among the numbers too. */
  long ask(String name, long... numbers) {
    Method m = METHODS.get(name);
    Object[] given = new Object[numbers.length];
    for (int i = 0; i < given.length; i++) {
      boolean isBoolean = m.getParameterTypes()[i] == boolean.class;
      given[i] = isBoolean ? (Object) (numbers[i] != 0) : (Object) (int) numbers[i];
    }
    try {
      Object answer = m.invoke(once(), given);
      return answer instanceof Boolean ? ((Boolean) answer ? 1 : 0) : ((Number) answer).longValue();
    } catch (ReflectiveOperationException e) {
      throw new IllegalStateException(name, e);
    }
  }

  /** Asks by a line such as "best 0 -1 0 0 1 2". */
  long line(String line) {
    String[] words = line.split(" ");
    long[] numbers = new long[words.length - 1];
    for (int i = 0; i < numbers.length; i++) {
      numbers[i] = Long.parseLong(words[i + 1]);
    }
    return ask(words[0], numbers);
  }
}

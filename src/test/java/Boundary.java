import java.io.IOException;
import java.nio.file.Files;
import java.nio.file.Path;
import java.util.ArrayList;
import java.util.Arrays;
import java.util.List;

/** Checks under the sentence of ../shared/DOC.md that asks for them: what fails is told with that sentence. */
final class Boundary {
  static final int NONE = OnePair.NONE;
  static final int MOST = Integer.MAX_VALUE;
  static final int LEAST = Integer.MIN_VALUE;

  private final String name;
  private final String document;
  private final Telling telling = new Telling();
  private String sentence = "";
  private int checks = 1;

  Boundary(String name) throws IOException {
    this.name = name;
    this.document = squeezed(Files.readString(Path.of("../shared/DOC.md")));
  }

  private static String squeezed(String text) {
    return text.replaceAll("\\s+", " ");
  }

  /** The sentence, as it stands in the document, that the checks behind it are of. */
  void says(String quote) {
    endSentence();
    telling.due("stands in DOC.md: " + quote, document.contains(squeezed(quote)), true);
    sentence = quote;
    checks = 0;
  }

  private void endSentence() {
    telling.due("checks of: " + sentence, checks > 0, true);
  }

  void due(String what, long got, long want) {
    checks++;
    telling.due("\"" + sentence + "\": " + what, got, want);
  }

  void due(String what, boolean got, boolean want) {
    due(what, got ? 1 : 0, want ? 1 : 0);
  }

  void due(String what, String got, String want) {
    checks++;
    if (!got.equals(want)) {
      telling.due("\"" + sentence + "\": " + what + " is " + got + ", due is " + want, 0, 1);
    }
  }

  /** Asks by a line such as "best 0 -1 0 0 1 2". */
  void asks(Asked asked, String line, long want) {
    due(line, asked.line(line), want);
  }

  /** A text that a new object takes. */
  void takes(int sort, String text) {
    tells(sort, text, 0, NONE);
  }

  /** A text that a new object refuses. */
  void faulty(int sort, String text, int fault, int place) {
    tells(sort, text, fault, place);
  }

  private void tells(int sort, String text, int fault, int place) {
    OnePair x = new OnePair();
    due("text " + sort + " of " + text, Telling.tell(x, sort, NONE, text), fault == 0 ? 0 : NONE);
    due("fault of " + text, x.fault(0), fault);
    due("place in " + text, x.fault(1), place);
    due("count behind " + text, x.count(sort), fault == 0 ? 1 : 0);
    due("tape behind " + text, x.end(1), NONE);
  }

  /**
   * Asks with one number of a line changed: with some that are answered, with others, and with the least and the
   * greatest of all, that are refused. The number is the k-th one, from 0 on.
   */
  void edges(Asked asked, String line, int refusal, int k, String answered, String refused) {
    for (String number : answered.split(" ")) {
      String changed = with(line, k, number);
      due(changed + " is answered", asked.line(changed) != refusal, true);
    }
    List<String> wrong = new ArrayList<>(Arrays.asList(refused.split(" ")));
    wrong.add("" + LEAST);
    wrong.add("" + MOST);
    for (String number : wrong) {
      asks(asked, with(line, k, number), refusal);
    }
  }

  private static String with(String line, int k, String number) {
    String[] words = line.split(" ");
    words[k + 1] = number;
    return String.join(" ", words);
  }

  void close() {
    endSentence();
    telling.close(name);
  }
}

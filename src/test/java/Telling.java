/** Tells texts to an object, and checks answers, for all tests of the project. */
final class Telling {
  private int wrong = 0;

  /** Makes a text the tape, fed twenty bytes a call; what was fed too much is cut. */
  static void tape(OnePair x, String text) {
    x.end(0);
    int[] numbers = new int[5];
    for (int begin = 0; begin < text.length(); begin += 20) {
      for (int i = 0; i < 5; i++) {
        numbers[i] = 0;
        for (int j = 0; j < 4; j++) {
          int at = begin + i * 4 + j;
          numbers[i] = numbers[i] << 8 | (at < text.length() ? text.charAt(at) & 255 : 0);
        }
      }
      x.feed(numbers[0], numbers[1], numbers[2], numbers[3], numbers[4]);
    }
    x.end(text.length());
  }

  static int tell(OnePair x, int sort, int at, String text) {
    tape(x, text);
    return x.text(sort, at);
  }

  /** How many calls of an object it takes to tell a text. */
  static int calls(String text) {
    return (text.length() + 19) / 20 + 3;
  }

  /** An object to which texts are told as a valley, a round, a ledger and a list; null: none of that sort. */
  static OnePair told(String valley, String round, String ledger, String list) {
    OnePair x = new OnePair();
    String[] texts = {valley, round, ledger, list};
    for (int sort = 0; sort < 4; sort++) {
      if (texts[sort] != null && tell(x, sort, -1, texts[sort]) != 0) {
        throw new IllegalStateException("refused: " + texts[sort]);
      }
    }
    return x;
  }

  void due(String what, long got, long want) {
    if (got != want) {
      wrong++;
      System.out.println(what + ": " + got + ", due is " + want);
    }
  }

  void due(String what, boolean got, boolean want) {
    due(what, got ? 1 : 0, want ? 1 : 0);
  }

  void close(String name) {
    System.out.println(name + ": " + (wrong == 0 ? "all as due" : wrong + " not as due"));
    if (wrong != 0) {
      System.exit(1);
    }
  }
}

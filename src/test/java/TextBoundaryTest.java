/** Terms 1 and 6, promises 1 to 5 and 38 to 40: the tape, the texts, their FAULTS, the images. */
public final class TextBoundaryTest {
  private static final int NONE = OnePair.NONE;
  private static final int BLANKS = 0x20202020;
  private static final String[] WORDS = {"slots", "pace", "light", "start", "touch", "eye", "two", "colour", "must",
      "at", "own", "sell", "pawn", "back", "will", "dies", "error"};
  /** Numbers behind each word, of its least kind. */
  private static final String[] NUMBERS = {"1", "1", "0 1", "0", "0 0 0", "0 0 0", "0 0 0", "0 0 0", "0 0 1",
      "0 0 1", "0 0 0 1", "0 1 0 0 1", "0 1 0 0 1", "0", "0 1", "0", "0 0"};
  private static final String[] A_TEXT = {"eye 0 1 0;", "at 0 1 2;", "dies 1;", "error 1 2;"};
  private static final int[] MOST_TEXTS = {2, 3, 2, 2};
  private static Boundary b;

  private static int sortOf(int word) {
    return word < 9 ? 0 : word == 9 ? 1 : word < 16 ? 2 : 3;
  }

  private static boolean feedBlanks(OnePair x, int times, int first) {
    boolean all = true;
    for (int i = 1; i <= times; i++) {
      all &= x.feed(BLANKS, BLANKS, BLANKS, BLANKS, BLANKS) == first + 20 * i;
    }
    return all;
  }

  /** All that is told, as far as it can be asked for; the tape's end is not cut by it. */
  private static String allOf(OnePair x) {
    StringBuilder all = new StringBuilder();
    for (int sort = 0; sort < 4; sort++) {
      all.append(x.count(sort)).append(' ');
    }
    for (int i = 0; i < 2; i++) {
      for (int what = 0; what < 7; what++) {
        all.append(x.valley(i, what)).append(' ');
      }
      all.append(x.house(i, 0, 0)).append(x.house(i, 1, 2)).append(x.valley(i, 10)).append(x.valley(i, 31)).append('v');
      all.append(x.deed(i, NONE, 0)).append(x.deed(i, 0, 0)).append(x.deed(i, 0, 1)).append('d');
      all.append(x.error(i, NONE, 0)).append(x.error(i, 0, 0)).append(x.error(i, 0, 1)).append('e');
    }
    for (int i = 0; i < 3; i++) {
      all.append(x.leg(i, NONE, 0)).append(x.leg(i, 0, 0)).append(x.leg(i, 0, 2)).append('l');
    }
    return all.append(x.fault(0)).append('f').append(x.fault(1)).toString();
  }

  private static OnePair oneOfEach() {
    OnePair x = new OnePair();
    Telling.tell(x, 0, NONE, "eye 7 1 0;eye 0 3 0;must 0 0 1;must 1 8 9;");
    Telling.tell(x, 1, NONE, "at 1 0 9;");
    Telling.tell(x, 2, NONE, "dies 6;");
    Telling.tell(x, 3, NONE, "error 5 55;");
    return x;
  }

  // ---- the tape

  private static void tape() {
    b.says("THE TAPE has at most 600 bytes.");
    OnePair x = new OnePair();
    b.due("thirty times", feedBlanks(x, 30, 0), true);
    b.due("600 are a text", x.text(1, NONE), 0);
    b.due("and once more", feedBlanks(x, 30, 0), true);
    b.due("600 are there", x.end(600), 600);
    b.due("601 are not", x.end(601), NONE);
    b.says("NONE, and nothing comes, if there would be more than 600.");
    b.due("620", x.feed(-1, -1, -1, -1, -1), NONE);
    b.due("600 stay", x.end(600), 600);
    b.due("and they are blanks", x.text(1, NONE), 1);
    feedBlanks(x, 30, 0);
    b.due("581", x.end(581), 581);
    b.due("601", x.feed(-1, -1, -1, -1, -1), NONE);
    b.due("581 stay", x.end(582), NONE);
    b.due("and they stay blanks", x.text(1, NONE), 2);
    feedBlanks(x, 30, 0);
    b.due("580", x.end(580), 580);
    b.due("600 again", x.feed(0x65796520, 0x39203820, 0x373b2020, BLANKS, BLANKS), 600);
    b.due("a text at the end", x.text(0, NONE), 0);
    b.due("its house", x.house(0, 0, 0) * 100 + x.house(0, 0, 2) * 10 + x.house(0, 0, 3), 987);
    b.due("none stays", x.end(1), NONE);
    b.due("room again", x.feed(0, 0, 0, 0, 0), 20);
  }

  private static void bytesOfNumbers() {
    b.says("twenty bytes come behind it, of each number the highest first: how many it has.");
    OnePair x = new OnePair();
    // eye 98 7 6;must 0 14 15;
    b.due("first twenty", x.feed(0x65796520, 0x39382037, 0x20363b6d, 0x75737420, 0x30203134), 20);
    b.due("behind them", x.feed(0x2031353b, BLANKS, BLANKS, BLANKS, 0x0a0a0a0a), 40);
    b.due("a valley", x.text(0, NONE), 0);
    b.due("its house", x.house(0, 0, 0) * 100 + x.house(0, 0, 2) * 10 + x.house(0, 0, 3), 9876);
    b.due("its must", x.valley(0, 10) * 10000 + x.valley(0, 20) * 100 + x.valley(0, 30), 1415);
    x.feed(0x65796520, 0x31203220, 0x333b0000, 0, 0);
    b.due("a byte 0 is no blank", x.text(0, NONE), NONE);
    b.due("at its place", x.fault(1), 10);
    int[] odd = {0x80, 0xff, 0xa0, 0x8a, 0xbb};
    for (int i = 0; i < odd.length; i++) {
      x.feed(odd[i] << 24, -1, Integer.MIN_VALUE, Integer.MAX_VALUE, 0);
      b.due("a byte above 127 is no sign of a text: " + odd[i], x.text(1, NONE), NONE);
      b.due("its place", x.fault(1), 0);
    }
    x.feed(BLANKS, 0x0a0a0a20, BLANKS | 0x80, BLANKS, BLANKS);
    b.due("nor is one below others", x.text(1, NONE), NONE);
    b.due("the place of it", x.fault(1), 11);
  }

  private static void end() {
    b.says("The tape has its first n bytes alone: n. NONE if it has not so many, or n is below 0.");
    OnePair x = new OnePair();
    b.due("none of none", x.end(0), 0);
    b.due("one of none", x.end(1), NONE);
    Telling.tape(x, "dies 1;dies 2;");
    for (int n : new int[] {-1, -14, Integer.MIN_VALUE, 15, 20, 600, Integer.MAX_VALUE}) {
      b.due("end " + n, x.end(n), NONE);
      b.due("all stay behind " + n, x.end(14), 14);
    }
    b.due("the first seven", x.end(7), 7);
    b.due("not eight any more", x.end(8), NONE);
    b.due("seven are taken", x.text(2, NONE), 0);
    b.due("one deed", x.deed(0, NONE, 0), 1);
    Telling.tape(x, "dies 1;dies 2;");
    b.due("none", x.end(0), 0);
    b.due("is an empty text", x.text(2, NONE), 1);
    b.due("no deed", x.deed(1, NONE, 0), 0);
    Telling.tape(x, "dies 1;dies 2;");
    x.end(7);
    b.due("what was cut is written over", x.feed(0x64696573, 0x20333b20, BLANKS, BLANKS, BLANKS), 27);
    x.text(2, 0);
    b.due("behind what stayed", x.deed(0, 1, 1), 3);
  }

  // ---- taking a text

  private static void manyTexts() {
    b.says("VALLEYS, at most 2 (sort 0), ROUNDS, at most 3 (1), LEDGERS, at most 2 (2), from 0 on.");
    for (int sort = 0; sort < 3; sort++) {
      OnePair x = new OnePair();
      for (int i = 0; i < MOST_TEXTS[sort]; i++) {
        b.due("further one of " + sort, Telling.tell(x, sort, NONE, A_TEXT[sort]), i);
      }
      b.due("one more of " + sort, Telling.tell(x, sort, NONE, A_TEXT[sort]), -2);
      b.due("as many as there were", x.count(sort), MOST_TEXTS[sort]);
      for (int other = 0; other < 4; other++) {
        b.due("of another sort", other == sort || x.count(other) == 0, true);
      }
    }
    b.says("LISTS, at most 2 (sort 3), from 0 on.");
    OnePair x = new OnePair();
    b.due("first list", Telling.tell(x, 3, NONE, A_TEXT[3]), 0);
    b.due("second list", Telling.tell(x, 3, NONE, ""), 1);
    b.due("third list", Telling.tell(x, 3, NONE, A_TEXT[3]), -2);
    b.due("two lists", x.count(3), 2);
    b.says("How many there are of a sort. -2 for another one.");
    int[] sorts = {-2, -1, 4, 5, Integer.MIN_VALUE, Integer.MAX_VALUE};
    for (int sort : sorts) {
      b.due("count " + sort, x.count(sort), -2);
    }
    b.due("a sort without any", x.count(0), 0);
  }

  private static void refusedText(OnePair x, int sort, int at) {
    String before = allOf(x);
    Telling.tell(x, 1, 0, "at 1 2 x");
    Telling.tape(x, "eye 1 2 3;");
    b.due("text " + sort + " at " + at, x.text(sort, at), -2);
    b.due("the tape is empty", x.end(1), NONE);
    b.due("fault", x.fault(0), 0);
    b.due("place", x.fault(1), NONE);
    b.due("all as before", allOf(x), before);
  }

  private static void noSuchText() {
    b.says("-2: there is none such, there are as many as may be, or no such sort"
        + " (the tape is empty then, too; no text is read, FAULT 0).");
    int[] sorts = {-2, -1, 4, 5, Integer.MIN_VALUE, Integer.MAX_VALUE};
    OnePair x = oneOfEach();
    for (int sort : sorts) {
      refusedText(x, sort, NONE);
      x = oneOfEach();
      refusedText(x, sort, 0);
      x = oneOfEach();
    }
    for (int sort = 0; sort < 4; sort++) {
      for (int at : new int[] {1, 2, 3, -2, -3, Integer.MIN_VALUE, Integer.MAX_VALUE}) {
        refusedText(oneOfEach(), sort, at);
      }
      OnePair full = oneOfEach();
      for (int i = 1; i < MOST_TEXTS[sort]; i++) {
        Telling.tell(full, sort, NONE, A_TEXT[sort]);
      }
      refusedText(full, sort, NONE);
      refusedText(full, sort, MOST_TEXTS[sort]);
    }
    OnePair empty = new OnePair();
    b.due("no text and no such sort", empty.text(4, NONE), -2);
    Telling.tell(empty, 1, NONE, "!");
    b.due("a fault ahead", empty.fault(0), 1);
    b.due("none such", Telling.tell(empty, 1, 0, "!"), -2);
    b.due("is gone", empty.fault(0), 0);
    b.due("its place, too", empty.fault(1), NONE);
  }

  private static void inThePlaceOfOne() {
    b.says("The tape is taken (and is empty then) as a text of a sort, a further one (at NONE),"
        + " or in the place of one: its number. NONE: a FAULT.");
    int[] numbers = {0, 1, 2};
    for (int sort = 0; sort < 4; sort++) {
      OnePair x = oneOfEach();
      for (int i = 1; i < MOST_TEXTS[sort]; i++) {
        b.due("further one", Telling.tell(x, sort, NONE, A_TEXT[sort]), i);
      }
      String before = allOf(x);
      for (int i = 0; i < MOST_TEXTS[sort]; i++) {
        b.due("a fault in the place of one", Telling.tell(x, sort, numbers[i], A_TEXT[sort] + "x"), NONE);
        b.due("the tape is empty behind it", x.end(1), NONE);
        b.due("place of the fault", x.fault(1), A_TEXT[sort].length());
      }
      b.due("no fault", Telling.tell(x, sort, 0, sort == 0 ? "eye 7 1 0;eye 0 3 0;must 0 0 1;must 1 8 9;"
          : new String[] {"at 1 0 9;", "dies 6;", "error 5 55;"}[sort - 1]), 0);
      b.due("the same told again", allOf(x), before);
      int last = MOST_TEXTS[sort] - 1;
      b.due("in the place of the last", Telling.tell(x, sort, last, sort == 0 ? "eye 1 1 1;" : ""), last);
      b.due("another one now", allOf(x).equals(before), false);
      b.due("as many", x.count(sort), MOST_TEXTS[sort]);
      Telling.tell(x, sort, last, A_TEXT[sort]);
      b.due("the others stayed", allOf(x), before);
    }
    OnePair x = new OnePair();
    b.due("a fault of a further one", Telling.tell(x, 0, NONE, "eye"), NONE);
    b.due("is no valley", x.count(0), 0);
    b.due("the next is the first", Telling.tell(x, 0, NONE, A_TEXT[0]), 0);
    b.due("an empty tape is a round", x.text(1, NONE), 0);
    b.due("and a list", x.text(3, NONE), 0);
    b.due("but no valley", x.text(0, 0), NONE);
  }

  private static void latestFault() {
    b.says("Of the latest text(), what 0: the FAULT, 0 without, 1: its place, NONE without. NONE for another what.");
    OnePair x = new OnePair();
    b.due("without a text", x.fault(0), 0);
    b.due("no place without a text", x.fault(1), NONE);
    Telling.tell(x, 1, NONE, "at 1 2 3;at 1 9 8;");
    x.feed(1, 2, 3, 4, 5);
    x.end(30);
    x.end(4);
    x.count(9);
    x.leg(0, 0, 0);
    x.again(0);
    x.image(5);
    b.due("stays through other calls", x.fault(0), 2);
    b.due("its place, too", x.fault(1), 16);
    for (int what : new int[] {-2, -1, 2, 3, Integer.MIN_VALUE, Integer.MAX_VALUE}) {
      b.due("fault " + what, x.fault(what), NONE);
    }
    b.due("the next text", Telling.tell(x, 1, NONE, "at 1 2 3;"), 0);
    b.due("no fault", x.fault(0), 0);
    b.due("no place", x.fault(1), NONE);
  }

  // ---- tokens

  private static void takesOr(boolean takes, int sort, String text, int place) {
    if (takes) {
      b.takes(sort, text);
    } else {
      b.faulty(sort, text, 1, place);
    }
  }

  /** A sign at every place of a text. */
  private static void sign(char c) {
    boolean isBlank = c == 10 || c == 32;
    boolean isDigit = c >= '0' && c <= '9';
    boolean isLetter = c >= 'a' && c <= 'z';
    takesOr(isBlank, 2, c + "dies 1;", 0);
    takesOr(isBlank, 2, "dies 1;" + c, 7);
    takesOr(isBlank, 2, "dies 1; " + c + " ", 8);
    takesOr(isBlank, 2, "will 1" + c + "2;", isDigit ? 5 : 6);
    takesOr(false, 2, "di" + c + "es 1;", 0);
    takesOr(isBlank || isDigit, 0, "pace" + c + "1;eye 0 0 0;", isLetter ? 0 : 4);
    takesOr(isBlank || isDigit, 3, "error 1 2" + c + ";", c == ';' ? 10 : 9);
  }

  private static void tokens() {
    b.says("TOKENS, as long as they go, blanks (10, 32) may stand between: words, rows of letters a .. z;"
        + " NUMBERS, 1 or 2 digits; ; one byte.");
    for (int c = 0; c < 256; c++) {
      sign((char) c);
    }
    String[] longer = {"eyeeye 1 2 3;", "at 0 0 123;", "dies 1;;", "error 0 11;", "slots 481;"};
    int[] end = {3, 9, 7, 9, 8};
    int[] sorts = {0, 1, 2, 3, 0};
    for (int i = 0; i < longer.length; i++) {
      OnePair x = new OnePair();
      Telling.tape(x, longer[i]);
      x.end(end[i]);
      boolean fits = i == 2;
      b.due("what is cut is of no token: " + longer[i], x.text(sorts[i], NONE), fits ? 0 : NONE);
      b.due("place, where it was cut: " + longer[i], x.fault(1), fits ? NONE : end[i]);
    }
    for (String last : new String[] {"eye", "12", ";", "eye 1 2 3", "slots 4", "pace 48", "eye 1 2 3;", "   "}) {
      OnePair x = new OnePair();
      Telling.tape(x, " ".repeat(600 - last.length() - 10) + "eye 9 8 7;" + last);
      int fault = last.equals(";") || last.equals("12") ? 600 - last.length() : 600;
      boolean fits = last.endsWith("3;") || last.equals("   ");
      b.due("the last of 600: " + last, x.text(0, NONE), fits ? 0 : NONE);
      b.due("its place: " + last, x.fault(1), fits ? NONE : fault);
    }
    b.takes(2, "dies1;dies 2 ;\ndies\n\n 3\n ; ");
    b.takes(1, "at00 00 01;at 0 0 1;");
    b.takes(2, "dies 07;");
    b.takes(3, "error 7 9;error 7 09;error 7 99;error 00 00;");
    b.faulty(3, "error 7 9 9;", 1, 10);
    b.faulty(3, "error 799;", 1, 6);
    b.faulty(3, "error 79;", 1, 8);
    b.faulty(3, "error 7;9;", 1, 7);
    b.faulty(2, "dies 1;dies2;dies 3;;", 1, 20);
    b.faulty(2, "diesdies 1;", 1, 0);
    b.faulty(2, "dies 1dies 2;", 1, 6);
  }

  private static void longerRows() {
    b.says("FAULTS of all, with places (a token's first byte; the end's):"
        + " 1 the first byte or token with which no text goes on (a longer row of digits is no token).");
    b.faulty(3, "error 7 100;", 1, 8);
    b.faulty(3, "error 7 000;", 1, 8);
    b.faulty(3, "error 007 1;", 1, 6);
    b.faulty(3, "error 7 99999999999999999999;", 1, 8);
    b.faulty(0, "eye 100 0 0;", 1, 4);
    b.faulty(0, "pace 100;eye 0 0 0;", 1, 5);
    b.faulty(0, "123;", 1, 0);
    b.faulty(0, "eye 0 0 123", 1, 8);
    b.faulty(0, "eye 0 0 0 123", 1, 10);
    for (int word = 0; word < WORDS.length; word++) {
      String text = WORDS[word] + " " + NUMBERS[word];
      int sort = sortOf(word);
      int end = text.length();
      b.faulty(sort, text, 1, end);
      b.faulty(sort, text + " \n ", 1, end + 3);
      b.faulty(sort, text + " 0;", 1, end + 1);
      b.faulty(sort, text + " " + WORDS[word], 1, end + 1);
      b.faulty(sort, text.substring(0, end - 1) + ";", 1, end - 1);
      b.faulty(sort, text.substring(0, end - 1) + ".;", 1, end - 1);
      b.faulty(sort, WORDS[word], 1, WORDS[word].length());
      b.faulty(sort, WORDS[word] + ";", 1, WORDS[word].length());
      b.faulty(sort, "  " + WORDS[word] + "s " + NUMBERS[word] + ";", 1, 2);
      b.faulty(sort, WORDS[word].substring(1) + " " + NUMBERS[word] + ";", 1, 0);
      b.faulty(sort, WORDS[word].substring(0, WORDS[word].length() - 1) + " " + NUMBERS[word] + ";", 1, 0);
      for (int other = 0; other < 4; other++) {
        if (other != sort) {
          b.faulty(other, text + ";", 1, 0);
        }
      }
    }
    b.faulty(0, "eye 0 0 0;at 0 0 1;", 1, 10);
    b.faulty(1, "at 0 0 1;must 0 0 1;", 1, 9);
    b.faulty(2, "own 0 0 0 1;error 0 0;", 1, 12);
    b.faulty(3, "error 0 0;dies 0;", 1, 10);
    b.faulty(1, "; at 0 0 1;", 1, 0);
  }

  private static void wordsOfSorts() {
    b.says("Later ones strike, but HOUSES, MUSTS, LEGS, DEEDS, which are further ones.");
    for (int word = 0; word < WORDS.length; word++) {
      String line = WORDS[word] + " " + NUMBERS[word] + ";";
      String house = sortOf(word) == 0 ? "eye 0 0 0;" : "";
      b.takes(sortOf(word), house + line + line + line);
      b.takes(sortOf(word), line + line + line + house);
    }
    Asked x = Asked.of("slots 1;slots 48;slots 7;pace 1;pace 99;pace 3;light 0 48;light 47 48;light 2 5;start 7;start 0;"
        + "start 1;touch 1 2 3;eye 4 5 6;must 0 1 2;must 1 3 4;", "at 0 1 2;at 0 1 2;", "dies 1;dies 1;", "error 1 1;"
        + "error 1 1;");
    int[] due = {7, 3, 2, 5, 1, 2, 2};
    for (int what = 0; what < due.length; what++) {
      b.asks(x, "valley 0 " + what, due[what]);
    }
    b.asks(x, "valley 0 10", 0);
    b.asks(x, "valley 0 11", 1);
    b.asks(x, "house 0 0 1", 0);
    b.asks(x, "house 0 1 1", 1);
    b.asks(x, "leg 0 -1 0", 2);
    b.asks(x, "deed 0 -1 0", 2);
    b.asks(x, "error 0 -1 0", 2);
  }

  // ---- numbers

  private static void numberRange(int sort, String ahead, String behind, int least, int most) {
    b.takes(sort, ahead + least + behind);
    b.takes(sort, ahead + most + behind);
    b.takes(sort, ahead + (least < 10 ? "0" + least : "" + least) + behind);
    if (least > 0) {
      b.faulty(sort, ahead + (least - 1) + behind, 2, ahead.length());
      b.faulty(sort, ahead + "00" + behind, 2, ahead.length());
    }
    if (most < 99) {
      b.faulty(sort, ahead + (most + 1) + behind, 2, ahead.length());
      b.faulty(sort, ahead + "99" + behind, 2, ahead.length());
    } else {
      b.faulty(sort, ahead + "100" + behind, 1, ahead.length());
    }
  }

  private static void valleyNumbers() {
    b.says("A VALLEY has SLOTS a day, 1 .. 48 (24 at first), a PACE, 1 .. 99 (9),"
        + " LIGHT from a slot to another one (0, 48), a START (0);");
    numberRange(0, "slots ", ";eye 0 0 0;", 1, 48);
    numberRange(0, "pace ", ";eye 0 0 0;", 1, 99);
    numberRange(0, "light ", " 48;eye 0 0 0;", 0, 47);
    numberRange(0, "light 0 ", ";eye 0 0 0;", 1, 48);
    numberRange(0, "start ", ";" + "eye 0 0 0;".repeat(8), 0, 7);
    Asked x = Asked.of("eye 0 0 0;", null, null, null);
    int[] first = {24, 9, 0, 48, 0, 1, 0};
    for (int what = 0; what < first.length; what++) {
      b.asks(x, "valley 0 " + what, first[what]);
    }
    Asked least = Asked.of("slots 1;pace 1;light 0 1;start 0;eye 0 0 0;", null, null, null);
    Asked most = Asked.of("slots 48;pace 99;light 47 48;start 7;" + "eye 0 0 0;".repeat(8), null, null, null);
    int[][] due = {{1, 1, 0, 1, 0, 1}, {48, 99, 47, 48, 7, 8}};
    for (int what = 0; what < 6; what++) {
      b.asks(least, "valley 0 " + what, due[0][what]);
      b.asks(most, "valley 0 " + what, due[1][what]);
    }
    OnePair x2 = new OnePair();
    String full = "slots 48;pace 99;light 47 48;start 7;" + "two 9 9 9;".repeat(8) + "must 7 46 48;".repeat(6);
    for (String ahead : new String[] {full, full + "!", full + "slots 0;", "start 1;slots 2;pace 3;light 4 5;must 0 0 1;"}) {
      Telling.tell(x2, 0, x2.count(0) == 0 ? NONE : 0, ahead);
      b.due("behind " + ahead, Telling.tell(x2, 0, 0, "eye 0 0 0;"), 0);
      for (int what = 0; what < first.length; what++) {
        b.due("first " + what + " behind " + ahead, x2.valley(0, what), first[what]);
      }
    }
    b.says("a HEIGHT, 0 .. 99, a KIND: TOUCH (0), EYE (1), TWO (2), COLOUR (3), a RATE, 0 .. 9, a BLIND rate, 0 .. 9;");
    String[] kinds = {"touch", "eye", "two", "colour"};
    for (int kind = 0; kind < 4; kind++) {
      numberRange(0, kinds[kind] + " ", " 0 0;", 0, 99);
      numberRange(0, kinds[kind] + " 0 ", " 0;", 0, 9);
      numberRange(0, kinds[kind] + " 0 0 ", ";", 0, 9);
      Asked house = Asked.of(kinds[kind] + " 99 9 8;" + kinds[kind] + " 0 0 9;", null, null, null);
      int[] told = {99, kind, 9, 8, 0, kind, 0, 9};
      for (int i = 0; i < told.length; i++) {
        b.asks(house, "house 0 " + i / 4 + " " + i % 4, told[i]);
      }
    }
  }

  private static void otherNumbers() {
    b.says("(a HOUSE of that KIND: HEIGHT, RATE, BLIND; must: a HOUSE, f, t; HOUSES are 0 .. 7).");
    numberRange(0, "must ", " 0 1;" + "eye 0 0 0;".repeat(8), 0, 7);
    b.says("A ROUND's text: {'at' NUMBER NUMBER NUMBER ';'} (a HOUSE, f, t).");
    numberRange(1, "at ", " 0 1;", 0, 7);
    b.says("(own: a HOUSE, a day of the week, 0 .. 6, f, t; sell, pawn: from one HOUSE to another one, day, f, t;"
        + " back: a DEED, 0 .. 29; will: from one to another one).");
    numberRange(2, "own ", " 0 0 1;", 0, 7);
    numberRange(2, "own 0 ", " 0 1;", 0, 6);
    for (String word : new String[] {"sell ", "pawn "}) {
      numberRange(2, word, " 6 0 0 1;", 0, 7);
      numberRange(2, word + "3 ", " 0 0 1;", 0, 7);
      numberRange(2, word + "0 1 ", " 0 1;", 0, 6);
    }
    numberRange(2, "back ", ";", 0, 29);
    numberRange(2, "will ", " 6;", 0, 7);
    numberRange(2, "will 3 ", ";", 0, 7);
    numberRange(2, "dies ", ";", 0, 7);
    b.says("A LIST has ERRORS, at most 20, from 0 on: a HOUSE, 0 .. 7, a ROW, 0 .. 99.");
    numberRange(3, "error ", " 0;", 0, 7);
    numberRange(3, "error 0 ", ";", 0, 99);
  }

  private static void slotsFromTo() {
    b.says("Slots from f to t are those from f on that are below t; f is 0 .. 47, t 1 .. 48, above f.");
    String[] ahead = {"light ", "must 0 ", "at 0 ", "own 0 0 ", "sell 0 1 0 ", "pawn 0 1 0 "};
    int[] sorts = {0, 0, 1, 2, 2, 2};
    for (int i = 0; i < ahead.length; i++) {
      String behind = sorts[i] == 0 ? ";slots 48;eye 0 0 0;" : ";";
      int f = ahead[i].length();
      numberRange(sorts[i], ahead[i], " 48" + behind, 0, 47);
      numberRange(sorts[i], ahead[i] + "0 ", behind, 1, 48);
      numberRange(sorts[i], ahead[i] + "20 ", behind, 21, 48);
      b.takes(sorts[i], ahead[i] + "47 48" + behind);
      b.faulty(sorts[i], ahead[i] + "47 47" + behind, 2, f + 3);
      b.faulty(sorts[i], ahead[i] + "20 20" + behind, 2, f + 3);
      b.faulty(sorts[i], ahead[i] + "20 5" + behind, 2, f + 3);
      b.faulty(sorts[i], ahead[i] + "48 48" + behind, 2, f);
      b.faulty(sorts[i], ahead[i] + "48 0" + behind, 2, f);
      b.faulty(sorts[i], ahead[i] + "99 99" + behind, 2, f);
    }
    Asked x = Asked.of("slots 6;eye 0 1 0;", "at 0 2 3;", "own 3 2 2 4;", null);
    int[] owner = {NONE, NONE, 3, 3, NONE};
    for (int slot = 0; slot < owner.length; slot++) {
      b.asks(x, "owner 0 1 2 " + slot + " 0", owner[slot]);
    }
  }

  // ---- faults

  private static void firstByPlace() {
    b.says("If there is none, the first by place, of one place the least:");
    b.faulty(1, "at 8 0 1;at 0 48 1;", 2, 3);
    b.faulty(1, "at 0 0 1;at 0 48 1;at 8 0 1;", 2, 14);
    b.faulty(1, "at 8 48 49;", 2, 3);
    b.faulty(1, "at 0 48 49;", 2, 5);
    b.faulty(1, "at 0 0 1;".repeat(16) + "at 8 0 1;", 3, 144);
    b.faulty(1, "at 0 0 1;".repeat(15) + "at 8 0 1;at 0 0 1;", 2, 138);
    b.faulty(0, "must 0 0 1;".repeat(7) + "eye 0 0 0;".repeat(9), 3, 66);
    b.faulty(0, "eye 0 0 0;".repeat(9) + "must 0 0 1;".repeat(7), 3, 80);
    b.faulty(0, "eye 0 0 0;".repeat(9) + "slots 0;", 3, 80);
    b.faulty(0, "slots 0;" + "eye 0 0 0;".repeat(9), 2, 6);
    b.faulty(1, "at 8 0 1;at 0 0 1", 1, 17);
    b.faulty(1, "at 0 0 1;".repeat(17) + "at 0 0 1.", 1, 161);
    b.faulty(1, "at 0 0 1;".repeat(17) + "at 0 0 100;", 1, 160);
    b.faulty(1, "at 8 0 1 1;", 1, 9);
    b.faulty(1, "at 8 0", 1, 6);
    b.faulty(1, "at 8 0 1;.at 0 1;", 1, 9);
  }

  private static void numbersThatCannotBe() {
    b.says("2 a NUMBER that can't be (as above; t not above f; the second HOUSE of sell, pawn, will, if it is the first;"
        + " a line with such a NUMBER tells its HOUSE, MUST, LEG, DEED all the same);");
    for (int house = 0; house < 8; house++) {
      for (String word : new String[] {"sell", "pawn"}) {
        b.faulty(2, word + " " + house + " " + house + " 0 0 1;", 2, 7);
        b.takes(2, word + " " + house + " " + (house + 1) % 8 + " 0 0 1;");
      }
      b.faulty(2, "will " + house + " " + house + ";", 2, 7);
      b.takes(2, "will " + house + " " + (house + 7) % 8 + ";");
    }
    b.faulty(2, "will 8 8;", 2, 5);
    b.faulty(2, "will 1 01;", 2, 7);
    b.faulty(1, "at 0 5 5;", 2, 7);
    String[] lines = {"eye 0 0 0;", "must 0 0 1;", "at 0 0 1;", "dies 0;", "error 0 0;"};
    String[] wrong = {"eye 0 10 0;", "must 8 0 1;", "at 0 1 1;", "will 1 1;", "error 8 0;"};
    int[] sorts = {0, 0, 1, 2, 3};
    int[] place = {6, 5, 7, 7, 6};
    int[] most = {8, 6, 16, 30, 20};
    for (int i = 0; i < lines.length; i++) {
      String full = lines[i].repeat(most[i]);
      b.faulty(sorts[i], full + wrong[i], 3, full.length());
      String ahead = lines[i].repeat(most[i] - 1);
      b.faulty(sorts[i], ahead + wrong[i], 2, ahead.length() + place[i]);
    }
  }

  private static void tooMany() {
    b.says("3 a 9th HOUSE, 7th MUST, 17th LEG, 31st DEED, at its first token.");
    String house = "eye 0 0 0;";
    b.takes(0, "touch 0 0 0;eye 0 0 0;two 0 0 0;colour 0 0 0;".repeat(2) + "must 0 0 1;".repeat(6));
    b.faulty(0, house.repeat(8) + "touch 0 0 0;", 3, 80);
    b.faulty(0, house.repeat(8) + " \n two 0 0 0;", 3, 83);
    b.faulty(0, "slots 9;" + house.repeat(8) + "must 0 0 1;colour 0 0 0;", 3, 99);
    b.faulty(0, house.repeat(10), 3, 80);
    b.takes(0, house + "must 0 0 1;".repeat(6));
    b.faulty(0, house + "must 0 0 1;".repeat(7), 3, 76);
    b.takes(1, "at 0 0 1;".repeat(16));
    b.faulty(1, "at 0 0 1;".repeat(17), 3, 144);
    b.faulty(1, "at 0 0 1;".repeat(18), 3, 144);
    b.takes(2, "own 0 0 0 1;dies 0;back 0;will 0 1;sell 0 1 0 0 1;pawn 0 1 0 0 1;".repeat(5));
    b.faulty(2, "dies 0;".repeat(30) + "own 0 0 0 1;", 3, 210);
    b.faulty(2, "dies 0;".repeat(30) + "back 0;", 3, 210);
    b.takes(0, house + "slots 1;pace 1;start 0;light 0 1;".repeat(17));
    b.says("FAULT 3: a 21st ERROR, at its first token.");
    b.takes(3, "error 0 0;".repeat(20));
    b.faulty(3, "error 0 0;".repeat(21), 3, 200);
    b.faulty(3, "error 0 0;".repeat(20) + " error 0 0;", 3, 201);
    OnePair x = new OnePair();
    Telling.tell(x, 3, NONE, "error 1 1;");
    Telling.tell(x, 3, 0, "error 0 0;".repeat(21));
    b.due("nothing of it is kept", x.error(0, NONE, 0), 1);
  }

  private static void numbered() {
    StringBuilder houses = new StringBuilder();
    StringBuilder musts = new StringBuilder();
    StringBuilder legs = new StringBuilder();
    StringBuilder deeds = new StringBuilder();
    StringBuilder errors = new StringBuilder();
    for (int k = 0; k < 30; k++) {
      houses.append(k < 8 ? "two " + (10 + k) + " " + k + " " + (8 - k) + ";" : "");
      musts.append(k < 6 ? "must " + k + " " + (2 * k) + " " + (2 * k + 1) + ";" : "");
      legs.append(k < 16 ? "at " + k % 8 + " " + k + " " + (k + 1) + ";" : "");
      deeds.append("own ").append(k % 8).append(' ').append(k % 7).append(' ').append(k).append(' ').append(k + 1).append(';');
      errors.append(k < 20 ? "error " + k % 8 + " " + (99 - k) + ";" : "");
    }
    Asked x = Asked.of(houses.toString() + musts, legs.toString(), deeds.toString(), errors.toString());
    b.says("HOUSES, at most 8, from 0 on:");
    for (int k = 0; k < 8; k++) {
      b.asks(x, "house 0 " + k + " 0", 10 + k);
      b.asks(x, "house 0 " + k + " 1", 2);
      b.asks(x, "house 0 " + k + " 2", k);
      b.asks(x, "house 0 " + k + " 3", 8 - k);
    }
    b.asks(x, "house 0 8 0", NONE);
    b.asks(x, "valley 0 5", 8);
    b.says("MUSTS, at most 6, from 0 on: a HOUSE, slots.");
    for (int k = 0; k < 6; k++) {
      b.asks(x, "valley 0 " + (10 + k), k);
      b.asks(x, "valley 0 " + (20 + k), 2 * k);
      b.asks(x, "valley 0 " + (30 + k), 2 * k + 1);
    }
    b.asks(x, "valley 0 16", NONE);
    b.asks(x, "valley 0 6", 6);
    b.says("A ROUND has LEGS, at most 16, from 0 on: a HOUSE, slots. A LEDGER has DEEDS, at most 30, from 0 on.");
    for (int k = 0; k < 30; k++) {
      int[] leg = {k % 8, k, k + 1};
      int[] deed = {0, k % 8, k % 7, k, k + 1, NONE};
      for (int what = 0; what < 6; what++) {
        b.asks(x, "deed 0 " + k + " " + what, deed[what]);
        b.asks(x, "leg 0 " + k + " " + what, k < 16 && what < 3 ? leg[what] : -2);
      }
    }
    b.asks(x, "leg 0 -1 0", 16);
    b.asks(x, "deed 0 -1 0", 30);
    b.asks(x, "deed 0 30 0", -2);
    b.says("A LIST has ERRORS, at most 20, from 0 on:");
    for (int k = 0; k < 20; k++) {
      b.asks(x, "error 0 " + k + " 0", k % 8);
      b.asks(x, "error 0 " + k + " 1", 99 - k);
    }
    b.asks(x, "error 0 20 0", -2);
    b.asks(x, "error 0 -1 0", 20);
  }

  private static void grammars() {
    b.says("A VALLEY's text: {('slots' NUMBER | 'pace' NUMBER | 'light' NUMBER NUMBER | 'start' NUMBER | ('touch' | 'eye' |"
        + " 'two' | 'colour') NUMBER NUMBER NUMBER | 'must' NUMBER NUMBER NUMBER) ';'}");
    b.takes(0, "must 1 3 4;start 1;eye 1 2 3;light 3 4;colour 4 5 6;pace 7;slots 8;two 9 9 9;touch 0 0 0;");
    b.says("A LEDGER's text: {('own' NUMBER NUMBER NUMBER NUMBER | ('sell' | 'pawn') NUMBER NUMBER NUMBER NUMBER NUMBER |"
        + " 'back' NUMBER | 'will' NUMBER NUMBER | 'dies' NUMBER) ';'}");
    b.takes(2, "dies 0;will 1 2;back 3;pawn 4 5 6 7 8;sell 5 4 3 2 10;own 1 2 3 4;dies 0;");
    b.says("A LIST's text: {'error' NUMBER NUMBER ';'};");
    b.takes(3, "error 1 2;error 1 2;");
    int[] numbers = {1, 1, 2, 1, 3, 3, 3, 3, 3, 3, 4, 5, 5, 1, 2, 1, 2};
    for (int word = 0; word < WORDS.length; word++) {
      StringBuilder line = new StringBuilder(WORDS[word]);
      for (int k = 0; k < 7; k++) {
        String text = line + ";";
        if (k < numbers[word]) {
          b.faulty(sortOf(word), text, 1, text.length() - 1);
        } else if (k > numbers[word]) {
          b.faulty(sortOf(word), text, 1, text.length() - 2 * (k - numbers[word]));
        }
        line.append(' ').append(k);
      }
    }
  }

  private static void notThere() {
    b.says("If there is none of these, at the end's place: 4 of a VALLEY START (0, too, without HOUSES),"
        + " a HOUSE of a MUST that is not there, or its t above SLOTS.");
    String house = "eye 0 0 0;";
    String[] none = {"", " ", "\n \n", "start 0;", "slots 48;pace 9;light 0 1;", "must 0 0 1;", "start 7;"};
    for (String text : none) {
      b.faulty(0, text, 4, text.length());
    }
    for (int start = 0; start < 8; start++) {
      b.takes(0, "start " + start + ";" + house.repeat(start + 1));
      b.takes(0, house.repeat(start + 1) + "must " + start + " 0 1;");
      if (start > 0) {
        String must = house.repeat(start) + " must " + start + " 0 1; ";
        b.faulty(0, must, 4, must.length());
        b.faulty(0, house.repeat(start) + "start " + start + ";", 4, 10 * start + 8);
        b.faulty(0, "start " + start + ";" + house.repeat(start) + "  ", 4, 10 * start + 10);
      }
    }
    b.takes(0, "start 1;start 0;" + house);
    b.faulty(0, "start 0;start 1;" + house, 4, 26);
    for (int slots : new int[] {1, 2, 47}) {
      b.takes(0, house + "must 0 0 " + slots + ";slots " + slots + ";");
      String text = house + "must 0 0 " + (slots + 1) + ";slots " + slots + ";";
      b.faulty(0, text, 4, text.length());
    }
    b.takes(0, house + "must 0 47 48;slots 48;");
    b.faulty(0, "slots 48;" + house + "must 0 47 48;slots 47;", 4, 41);
    b.takes(0, house + "must 0 23 24;");
    b.faulty(0, house + "must 0 24 25;", 4, 23);
    b.faulty(0, house + "must 0 0 1;must 0 0 25;must 0 0 1;", 4, 44);
    b.faulty(0, house + "must 1 0 1;must 0 0 1;", 4, 32);
    b.faulty(0, "start 1;slots 0;" + house, 2, 14);
    b.faulty(0, "start 1;" + house + "eye", 1, 21);
    for (int sort = 1; sort < 4; sort++) {
      b.takes(sort, "");
      b.takes(sort, " \n");
    }
    b.takes(1, "at 7 47 48;");
    b.takes(2, "back 29;dies 7;dies 7;");
    b.takes(3, "error 7 99;");
  }

  // ---- images

  private static void images() {
    b.says("Image k (0 .. 2) is all that is told (the tape, the FAULT, too), as it is now: true; false for another k.");
    OnePair x = oneOfEach();
    Telling.tell(x, 0, NONE, "two 3 4 5;");
    Telling.tell(x, 1, NONE, "at 4 0 7;at 5 9 10;");
    Telling.tell(x, 1, NONE, "at 3 0 3;at 5 9 10;at 0 11 12;");
    Telling.tell(x, 2, NONE, "will 2 3;dies 2;");
    Telling.tell(x, 3, NONE, "error 1 1;error 0 9;");
    Telling.tell(x, 3, NONE, "error 1 1;error 9 9;");
    Telling.tape(x, "dies 5;");
    String before = allOf(x);
    for (int k : new int[] {-2, -1, 3, 4, Integer.MIN_VALUE, Integer.MAX_VALUE}) {
      b.due("image " + k, x.image(k), false);
      b.due("again " + k, x.again(k), false);
    }
    for (int k = 0; k < 3; k++) {
      b.due("no image " + k + " yet", x.again(k), false);
      b.due("image " + k, x.image(k), true);
    }
    for (int sort = 0; sort < 4; sort++) {
      for (int i = 0; i < MOST_TEXTS[sort]; i++) {
        b.due("another one", Telling.tell(x, sort, i, A_TEXT[sort] + A_TEXT[sort] + A_TEXT[sort] + A_TEXT[sort]), i);
      }
    }
    Telling.tape(x, "x");
    for (int k = 0; k < 3; k++) {
      b.due("again " + k, x.again(k), true);
      b.due("all as it was", allOf(x), before);
      b.due("the tape as it was", x.text(2, 1), 1);
      b.due("its text", x.deed(1, 0, 1), 5);
      b.due("an image is none of what comes behind it", x.deed(1, NONE, 0), 1);
    }
    b.says("All that is as image k has it (other images stay): true; false if there is none such.");
    OnePair y = new OnePair();
    b.due("image of nothing", y.image(1), true);
    Telling.tell(y, 1, NONE, "at 1 2 3;");
    y.image(2);
    Telling.tell(y, 1, NONE, "at 4 5 6;!");
    y.image(0);
    b.due("nothing again", y.again(1), true);
    b.due("no round", y.count(1), 0);
    b.due("no fault of a text", y.fault(0), 0);
    b.due("no place of a fault", y.fault(1), NONE);
    b.due("no leg", y.leg(0, 0, 0), -2);
    b.due("one round again", y.again(2), true);
    b.due("its leg", y.leg(0, 0, 0), 1);
    b.due("a fault again", y.again(0), true);
    b.due("with its place", y.fault(0) * 100 + y.fault(1), 109);
    Telling.tell(y, 1, 0, "");
    b.due("refused", y.again(3), false);
    b.due("and nothing is as it was", y.leg(0, NONE, 0), 0);
    b.due("another image over one", y.image(2), true);
    b.due("the other one", y.again(0), true);
    b.due("has its leg", y.leg(0, NONE, 0), 1);
    b.due("the new one", y.again(2), true);
    b.due("has none", y.leg(0, NONE, 0), 0);
  }

  private static void manyCalls() {
    b.says("An object is used for at most 512 calls after it has been made; what later calls answer is free.");
    OnePair x = new OnePair();
    for (int call = 0; call < 170; call++) {
      x.feed(0x61742030, 0x20302031, 0x3b202020, BLANKS, BLANKS);
      b.due("text of call " + call * 3, x.text(1, call == 0 ? NONE : 0), 0);
      x.image(call % 3);
    }
    b.due("the 511th", x.again(0), true);
    b.due("the 512th", x.leg(0, NONE, 0), 1);
  }

  public static void main(String[] args) throws Exception {
    b = new Boundary("TextBoundaryTest");
    tape();
    bytesOfNumbers();
    end();
    manyTexts();
    noSuchText();
    inThePlaceOfOne();
    latestFault();
    tokens();
    longerRows();
    wordsOfSorts();
    valleyNumbers();
    otherNumbers();
    slotsFromTo();
    firstByPlace();
    numbersThatCannotBe();
    tooMany();
    numbered();
    grammars();
    notThere();
    images();
    manyCalls();
    b.close();
  }
}

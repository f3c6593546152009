/** Counts the answers that are not as due; each test ends with finish(). */
final class Check {
  private static int wrong = 0;
  private static int asked = 0;
  private static String about = "";

  private Check() {
  }

  static void due(String call, long got, long want) {
    asked++;
    if (got != want) {
      wrong++;
      System.out.println((about.isEmpty() ? "" : about + ": ") + call + " answered " + got + ", due is " + want);
    }
  }

  /** What the calls from here on are a test of. */
  static void about(String words) {
    about = words;
  }

  static void due(String call, boolean got, boolean want) {
    due(call, got ? 1 : 0, want ? 1 : 0);
  }

  static void finish() {
    System.out.println(wrong == 0 ? asked + " answers are as due" : wrong + " answers are not as due");
    if (wrong != 0) {
      System.exit(1);
    }
  }

  /** Spells the small letters of a text, a being LETTER 0. */
  static void spell(NineKeys x, String text) {
    x.unspell();
    for (int i = 0; i < text.length(); i++) {
      due("spell " + text, x.spell(text.charAt(i) - 'a', -1, 0, 0, 0), i + 1);
    }
  }

  static int add(NineKeys x, String text, int count) {
    spell(x, text);
    return x.add(count);
  }

  static int third(NineKeys x, String text) {
    spell(x, text);
    return x.third();
  }

  static void press(NineKeys x, String keys) {
    while (x.many(4) > 0) {
      x.back();
    }
    for (int i = 0; i < keys.length(); i++) {
      due("press " + keys, x.press(keys.charAt(i) - '0'), i + 1);
    }
  }

  /** A text of three small letters that is another one for each number from 0 to 25 * 26 * 26. */
  static String name(int n) {
    return "" + (char) ('a' + n % 26) + (char) ('a' + n / 26 % 26) + (char) ('a' + n / 676 % 26);
  }
}

/** Promises 1 to 4, sentence by sentence. */
final class LettersEdges {
  private static final int MIN = Integer.MIN_VALUE;
  private static final int MAX = Integer.MAX_VALUE;

  private LettersEdges() {
  }

  static void all(Edges edges) {
    edges.of("1");
    edges.test("No WORDS", LettersEdges::noWords);
    edges.test("THE SPELT, THE PRESSED, THE TEXT are empty", LettersEdges::rowsAreEmpty);
    edges.of("2");
    edges.test("A LETTER has another KEY: 1 if that changes something", LettersEdges::dealOfAnother);
    edges.test("else 0", LettersEdges::dealOfTheSame);
    edges.test("NUMBER: there is no such LETTER", LettersEdges::dealOfNoLetter);
    edges.test("or no such KEY", LettersEdges::dealOfNoKey);
    edges.of("3");
    edges.test("what = 0 its KEY", LettersEdges::keyOfALetter);
    edges.test("1 its POSITION", LettersEdges::positionOfALetter);
    edges.test("NUMBER: there is none such", LettersEdges::letterOfNone);
    edges.test("another what", LettersEdges::letterOfAnotherWhat);
    edges.of("4");
    edges.test("Whether two KEYS are BESIDE one another", LettersEdges::besideOfAll);
    edges.test("(false if one is none)", LettersEdges::besideOfNone);
  }

  private static void noWords() {
    NineKeys x = new NineKeys();
    Check.due("came", x.many(0), 0);
    Check.due("there", x.many(1), 0);
    Check.due("pairs", x.many(2), 0);
    Check.due("newcomers", x.many(6), 0);
    Check.due("word 0", x.word(0, 0), -1);
    Check.due("drop 0", x.drop(0), NineKeys.NUMBER);
    Check.due("put 0", x.put(0), NineKeys.NUMBER);
    Check.due("offers of nothing", x.offers(1, MAX), 0);
    Check.due("clash", x.clash(), 0);
    NineKeys other = new NineKeys();
    Still.usual(other);
    Check.due("none by another object", x.many(0), 0);
  }

  private static void rowsAreEmpty() {
    NineKeys x = new NineKeys();
    Check.due("spelt", x.many(3), 0);
    Check.due("pressed", x.many(4), 0);
    Check.due("text", x.many(5), 0);
    Check.due("unspell", x.unspell(), 0);
    Check.due("back", x.back(), NineKeys.STATE);
    Check.due("wipe", x.wipe(), 0);
    Check.due("text 0", x.text(0), -1);
    Check.due("fewest", x.fewest(), NineKeys.STATE);
    NineKeys other = new NineKeys();
    Still.usual(other);
    Check.due("spelt by another object", x.many(3), 0);
    Check.due("pressed by another object", x.many(4), 0);
    Check.due("text by another object", x.many(5), 0);
  }

  private static void dealOfAnother() {
    NineKeys x = new NineKeys();
    int[][] deals = {{0, 9}, {25, 1}, {0, 2}, {0, 1}, {13, 4}};
    for (int[] d : deals) {
      Check.due("deal " + d[0] + " " + d[1], x.deal(d[0], d[1]), 1);
      Check.due("then " + d[0], x.letter(d[0], 0), d[1]);
    }
    Check.due("the next one stays", x.letter(1, 0), 1);
    Check.due("the last but one stays", x.letter(24, 0), 9);
  }

  private static void dealOfTheSame() {
    Still.due("deal(0, 1)", Still::usual, x -> x.deal(0, 1), 0);
    Still.due("deal(25, 9)", Still::usual, x -> x.deal(25, 9), 0);
    Still.due("deal(25, 1) again", x -> x.deal(25, 1), x -> x.deal(25, 1), 0);
  }

  private static void dealOfNoLetter() {
    for (int l : new int[] {-1, 26, MIN, MAX}) {
      Still.due("deal(" + l + ", 5)", Still::usual, x -> x.deal(l, 5), NineKeys.NUMBER);
    }
  }

  private static void dealOfNoKey() {
    for (int key : new int[] {0, 10, -1, MIN, MAX}) {
      Still.due("deal(3, " + key + ")", Still::usual, x -> x.deal(3, key), NineKeys.NUMBER);
    }
  }

  private static void keyOfALetter() {
    Still.due("first", Still::usual, x -> x.letter(0, 0), 1);
    Still.due("last", Still::usual, x -> x.letter(25, 0), 9);
    NineKeys x = new NineKeys();
    x.deal(25, 4);
    Check.due("dealt", x.letter(25, 0), 4);
  }

  private static void positionOfALetter() {
    Still.due("first of a key", Still::usual, x -> x.letter(3, 1), 1);
    Still.due("last of a key", Still::usual, x -> x.letter(5, 1), 3);
    Still.due("the last letter", Still::usual, x -> x.letter(25, 1), 2);
    NineKeys x = new NineKeys();
    x.deal(25, 4);
    Check.due("behind three", x.letter(25, 1), 4);
    Check.due("alone", x.letter(24, 1), 1);
    x.deal(0, 4);
    Check.due("ahead of four", x.letter(0, 1), 1);
    Check.due("behind one more", x.letter(25, 1), 5);
  }

  private static void letterOfNone() {
    for (int l : new int[] {-1, 26, MIN, MAX}) {
      Still.due("letter(" + l + ", 0)", Still::usual, x -> x.letter(l, 0), NineKeys.NUMBER);
      Still.due("letter(" + l + ", 1)", Still::usual, x -> x.letter(l, 1), NineKeys.NUMBER);
    }
  }

  private static void letterOfAnotherWhat() {
    for (int what : new int[] {-1, 2, 3, 10, MIN, MAX}) {
      Still.due("letter(0, " + what + ")", Still::usual, x -> x.letter(0, what), NineKeys.NUMBER);
    }
  }

  private static void besideOfAll() {
    NineKeys x = new NineKeys();
    String[] besides = {"", "24", "135", "26", "157", "2468", "359", "48", "579", "68"};
    for (int a = 1; a <= 9; a++) {
      for (int b = 1; b <= 9; b++) {
        Check.due("beside " + a + " " + b, x.beside(a, b), besides[a].contains("" + b));
      }
    }
  }

  private static void besideOfNone() {
    NineKeys x = new NineKeys();
    int[][] none = {{0, 1}, {1, 0}, {9, 10}, {10, 9}, {-2, 1}, {1, -2}, {0, 3}, {3, 0}, {7, 10}, {10, 7},
        {9, 12}, {12, 9}, {0, 0}, {10, 11}, {-1, 0}, {MIN, MAX}, {MAX, MIN}, {MIN, 1}, {9, MAX}, {MAX, MAX - 1}, {MIN, MIN + 1}};
    for (int[] n : none) {
      Check.due("beside " + n[0] + " " + n[1], x.beside(n[0], n[1]), false);
    }
  }
}

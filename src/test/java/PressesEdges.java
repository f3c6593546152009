/** Promises 28 to 36, sentence by sentence. */
final class PressesEdges {
  private static final int MIN = Integer.MIN_VALUE;
  private static final int MAX = Integer.MAX_VALUE;
  private static final int[] NO_WORD_OF_FOUR = {-1, 4, 5, 79, 80, MIN, MAX};
  private static final String FIRST_DEAL = "11122233344455566677788899";

  private PressesEdges() {
  }

  static void all(Edges edges) {
    spending(edges);
    dealing(edges);
    clashing(edges);
  }

  private static void spending(Edges edges) {
    edges.of("28");
    edges.test("PRESSES of a WORD by a kind", PressesEdges::costOfEachKind);
    edges.test("NUMBER: there is no such WORD", PressesEdges::costOfNoWord);
    edges.test("kind isn't 0 to 3", PressesEdges::costOfNoKind);
    edges.test("STATE: it is GONE", PressesEdges::costOfGone);
    edges.of("29");
    edges.test("The least SPENT of THE TEXT, of all rows of kinds", PressesEdges::fewestOfOneToSixty);
    edges.test("STATE: it is empty", PressesEdges::fewestOfNothing);
    edges.test("or a WORD of it is GONE", PressesEdges::fewestOfGone);
    edges.of("30");
    edges.test("the one with the lesser kind where they are first unlike: kind i of it", PressesEdges::planOfEquals);
    edges.test("-1: there is none such", PressesEdges::planOfNone);
    edges.test("(or fewest() is refused)", PressesEdges::planRefused);
  }

  private static void dealing(Edges edges) {
    edges.of("31");
    edges.test("TAP PRESSES of THE TEXT", PressesEdges::tapsOfNoneToSixty);
    edges.of("32");
    edges.test("parted into nine stretches of at least one", PressesEdges::bestOfStretchesOfOne);
    edges.test("KEY 1 having the first, and so on", PressesEdges::bestInOrder);
    edges.test("the least TAP PRESSES of THE TEXT", PressesEdges::bestIsLeast);
    edges.test("are the shorter where they are first unlike", PressesEdges::bestOfEquals);
    edges.test("holds from now on", PressesEdges::bestHolds);
    edges.of("33");
    edges.test("(a below b, of unlike KEYS)", PressesEdges::swapOfLikeKeys);
    edges.test("that which makes TAP PRESSES of THE TEXT least", PressesEdges::swapIsLeast);
    edges.test("of several that with the least a, then b", PressesEdges::swapOfEquals);
    edges.test("is done, if they are less by it: by how many", PressesEdges::swapWins);
    edges.test("else 0", PressesEdges::swapWinsNothing);
  }

  private static void clashing(Edges edges) {
    edges.of("34");
    edges.test("the most WORDS of one", PressesEdges::clashOfOneToForty);
    edges.test("0 without WORDS", PressesEdges::clashOfNone);
    edges.of("35");
    edges.test("WORD i, by numbers, of those of one such row", PressesEdges::clashingByNumbers);
    edges.test("if several rows have so many, of the one that the least WORD has", PressesEdges::clashingOfEquals);
    edges.test("-1: there is none such", PressesEdges::clashingOfNone);
    edges.of("36");
    edges.test("How many pairs of WORDS that are THERE have the same KEYS (by GUESS)",
        PressesEdges::clashesOfNoneToForty);
  }

  // ---- 28 to 30

  private static void costOfEachKind() {
    int[][] want = {{3, 4, 5, 4}, {5, 3, 3, 2}, {9, 4, 2, 4}};
    for (int w = 0; w < 3; w++) {
      for (int kind = 0; kind < 4; kind++) {
        int word = w;
        int some = kind;
        Still.due("cost(" + w + ", " + kind + ")", PressesEdges::usualAndAMore, x -> x.cost(word, some), want[w][kind]);
      }
    }
  }

  /** Another word by which "ad" stands behind two by slide. */
  private static void usualAndAMore(NineKeys x) {
    Still.usual(x);
    Check.add(x, "abe", 8);
    Check.press(x, "12");
  }

  private static void costOfNoWord() {
    for (int w : NO_WORD_OF_FOUR) {
      for (int kind = 0; kind < 4; kind++) {
        int some = kind;
        Still.due("cost(" + w + ", " + kind + ")", Still::usual, x -> x.cost(w, some), NineKeys.NUMBER);
      }
    }
  }

  private static void costOfNoKind() {
    for (int kind : new int[] {-1, 4, MIN, MAX}) {
      Still.due("cost(0, " + kind + ")", Still::usual, x -> x.cost(0, kind), NineKeys.NUMBER);
    }
  }

  private static void costOfGone() {
    for (int kind = 0; kind < 4; kind++) {
      int some = kind;
      Still.due("cost(3, " + kind + ")", Still::usual, x -> x.cost(3, some), NineKeys.STATE);
    }
    Still.due("cost(0, 0) of one let go", x -> Still.fillWords(x, 41), x -> x.cost(0, 0), NineKeys.STATE);
  }

  private static void textOf(NineKeys x, int... words) {
    for (int w : words) {
      x.put(w);
    }
  }

  /** "a" as cheap by TAP as by GUESS, and "e" dearer by one. */
  private static void aAndE(NineKeys x, int... words) {
    Check.add(x, "a", 1);
    Check.add(x, "e", 1);
    textOf(x, words);
  }

  private static void fewestOfOneToSixty() {
    Still.due("one by TAP", x -> aAndE(x, 0), x -> x.fewest(), 2);
    Still.due("one that is as dear", x -> aAndE(x, 1), x -> x.fewest(), 3);
    Still.due("two by GUESS", x -> aAndE(x, 1, 1), x -> x.fewest(), 5);
    Still.due("a change in the middle", x -> aAndE(x, 0, 1, 1), x -> x.fewest(), 7);
    Still.due("no change back", x -> aAndE(x, 1, 1, 0, 1), x -> x.fewest(), 9);
    Still.due("all by TAP", x -> aAndE(x, 0, 0, 1, 0, 0), x -> x.fewest(), 11);
    NineKeys x = new NineKeys();
    aAndE(x);
    for (int n = 1; n <= 60; n++) {
      x.put(1);
      Check.due("of " + n, x.fewest(), 2 * n + 1);
    }
  }

  private static void fewestOfNothing() {
    Still.due("of a new object", x -> x.unspell(), x -> x.fewest(), NineKeys.STATE);
    Still.due("without text", x -> aAndE(x), x -> x.fewest(), NineKeys.STATE);
    Still.due("wiped", PressesEdges::wiped, x -> x.fewest(), NineKeys.STATE);
  }

  private static void wiped(NineKeys x) {
    Still.usual(x);
    x.wipe();
  }

  private static void textWithGone(NineKeys x, int gone) {
    Still.usual(x);
    x.wipe();
    textOf(x, 0, 1, 2);
    x.drop(gone);
  }

  private static void fewestOfGone() {
    for (int gone = 0; gone < 3; gone++) {
      int some = gone;
      Still.due("word " + gone + " of three", x -> textWithGone(x, some), x -> x.fewest(), NineKeys.STATE);
    }
    NineKeys x = new NineKeys();
    Still.usual(x);
    Check.due("with a gone one that isn't in the text", x.fewest() > 0, true);
    Still.fillWords(x, 41);
    Check.due("all there", x.fewest() > 0, true);
    Still.fillWords(x, 42);
    Check.due("one let go", x.fewest(), NineKeys.STATE);
  }

  private static void planIs(String name, String want, int... words) {
    NineKeys x = new NineKeys();
    aAndE(x, words);
    for (int i = 0; i < want.length(); i++) {
      Check.due(name + ": kind " + i, x.plan(i), want.charAt(i) - '0');
    }
    Check.due(name + ": no more", x.plan(want.length()), -1);
  }

  private static void planOfEquals() {
    planIs("TAP alone", "0", 0);
    planIs("TAP ahead of GUESS", "0", 1);
    planIs("GUESS ahead of SLIDE and SHORTER", "11", 1, 1);
    planIs("TAP first, though GUESS would do", "011", 0, 1, 1);
    planIs("TAP twice first", "0011", 0, 0, 1, 1);
    planIs("TAP as long as GUESS wins nothing", "001111", 0, 0, 1, 0, 1, 1);
    planIs("TAP for all, though GUESS would do", "00000", 0, 0, 1, 0, 0);
    NineKeys x = new NineKeys();
    Check.add(x, "aaab", 1);
    textOf(x, 0);
    Still.due("SLIDE ahead of SHORTER", y -> slideOrShorter(y), y -> y.plan(0), 2);
    Check.due("SLIDE", x.plan(0), 2);
  }

  /** A word of four by GUESS, and of two presses by SLIDE and by SHORTER. */
  private static void slideOrShorter(NineKeys x) {
    Check.add(x, "aaab", 1);
    textOf(x, 0, 0);
    Check.due("SLIDE", x.cost(0, 2), 2);
    Check.due("SHORTER", x.cost(0, 3), 2);
  }

  private static void planOfNone() {
    for (int i : new int[] {-1, 3, 4, 59, 60, MIN, MAX}) {
      Still.due("plan(" + i + ")", x -> aAndE(x, 0, 1, 1), x -> x.plan(i), -1);
    }
    Still.due("plan(60) of sixty", PressesEdges::sixty, x -> x.plan(60), -1);
    Still.due("plan(59) of sixty", PressesEdges::sixty, x -> x.plan(59), 1);
  }

  private static void sixty(NineKeys x) {
    aAndE(x);
    Still.fillText(x, 1);
  }

  private static void planRefused() {
    Still.due("of a new object", x -> x.unspell(), x -> x.plan(0), -1);
    Still.due("without text", x -> aAndE(x), x -> x.plan(0), -1);
    Still.due("wiped", PressesEdges::wiped, x -> x.plan(0), -1);
    for (int gone = 0; gone < 3; gone++) {
      for (int i = 0; i < 3; i++) {
        int some = gone;
        int kind = i;
        Still.due("plan(" + i + "), " + gone + " being gone", x -> textWithGone(x, some), x -> x.plan(kind), -1);
      }
    }
  }

  // ---- 31 and 32

  private static void tapsOfNoneToSixty() {
    Still.due("of a new object", x -> x.unspell(), x -> x.taps(), 0);
    Still.due("wiped", PressesEdges::wiped, x -> x.taps(), 0);
    Still.due("usual", Still::usual, x -> x.taps(), 12);
    Still.due("sixty", PressesEdges::sixty, x -> x.taps(), 180);
    NineKeys x = new NineKeys();
    Check.add(x, "zzzzzzzzzz", 1);
    for (int l = 0; l < 26; l++) {
      x.deal(l, 5);
    }
    Still.fillText(x, 0);
    Check.due("as many as can be", x.taps(), 60 * (10 * 26 + 9 + 1));
    x.drop(0);
    Check.due("all gone", x.taps(), 0);
  }

  private static void keysAre(NineKeys x, String want) {
    StringBuilder got = new StringBuilder();
    for (int l = 0; l < 26; l++) {
      got.append(x.letter(l, 0));
    }
    Check.due("the deal " + got + " is " + want, got.toString().equals(want), true);
  }

  private static NineKeys withText(String... words) {
    NineKeys x = new NineKeys();
    for (String word : words) {
      Check.spell(x, word);
      x.put(x.find() >= 0 ? x.find() : x.add(1));
    }
    return x;
  }

  private static void bestOfStretchesOfOne() {
    NineKeys x = withText("stuvwxyz");
    Check.due("the last eight alone", x.best(), 9);
    keysAre(x, "11111111111111111123456789");
    x = withText("abcdefgh");
    Check.due("the first eight alone", x.best(), 9);
    keysAre(x, "12345678999999999999999999");
    x = withText("yz");
    Check.due("the last two", x.best(), 3);
    keysAre(x, "12345677777777777777777789");
    // KEY 1 must have a too, so that b to j can't all be first.
    x = withText("bcdefghij");
    Check.due("nine behind a", x.best(), 9 + 1 + 1);
  }

  private static void bestInOrder() {
    String[][] texts = {{}, {"zebra", "quilt"}, {"abc", "xyz", "mno"}, {"a", "z"}};
    for (String[] words : texts) {
      NineKeys x = withText(words);
      x.deal(0, 9);
      x.deal(25, 1);
      x.best();
      Check.due("a has key 1", x.letter(0, 0), 1);
      Check.due("z has key 9", x.letter(25, 0), 9);
      for (int l = 1; l < 26; l++) {
        int more = x.letter(l, 0) - x.letter(l - 1, 0);
        Check.due("the key of " + l + " is that of the one ahead or the next", more == 0 || more == 1, true);
      }
    }
  }

  private static void bestIsLeast() {
    NineKeys x = new NineKeys();
    Check.due("of nothing", x.best(), 0);
    x = withText("a");
    Check.due("a", x.best(), 2);
    x = withText("zzzzzzzzzz");
    Check.due("z by itself", x.best(), 10 + 9 + 1);
    x = withText("abcdefghij", "klmnopqrst", "uvwxyz");
    Check.due("each letter once", x.best(), 69);
    x = withText("ad", "cab");
    x.drop(0);
    Check.due("without the gone", x.best(), 4);
    x = withText("aaaaaaaaaa", "bbbbbbbbbb");
    Check.due("two of ten", x.best(), 2 * 20);
    x.wipe();
    x.put(1);
    Check.due("of the text as it is now", x.best(), 20);
    x = withText("ad", "cab");
    Check.due("two", x.best(), 3 + 4);
    x.drop(0);
    x.drop(1);
    Check.due("all being gone", x.best(), 0);
  }

  private static void bestOfEquals() {
    NineKeys x = new NineKeys();
    x.best();
    keysAre(x, "12345678999999999999999999");
    x = withText("z");
    x.best();
    keysAre(x, "12345678888888888888888889");
    x = withText("c");
    x.best();
    keysAre(x, "12345678999999999999999999");
    x = withText("m");
    x.best();
    keysAre(x, "12345678888899999999999999");
    x = withText("abcdefghij", "klmnopqrst", "uvwxyz");
    x.best();
    keysAre(x, "11122233344455566677788999");
    x = withText("a");
    x.drop(0);
    x.best();
    keysAre(x, "12345678999999999999999999");
  }

  private static void bestHolds() {
    NineKeys x = withText("ab", "cd", "ef", "gh", "ij", "kl", "mn", "op", "qr");
    String apart = "12123434565678789999999999";
    for (int l = 0; l < 26; l++) {
      x.deal(l, apart.charAt(l) - '0');
    }
    Check.due("a deal that isn't of stretches", x.taps(), 4 * (3 + 5) + 5);
    // A stretch of one, seven of two and one of three, by which q and r alone share a key.
    Check.due("the best of stretches", x.best(), 1 + 7 * 3 + 6 + 1 + 9);
    Check.due("holds, though the other one was better", x.taps(), 38);
    keysAre(x, "12233445566778899999999999");
    Check.due("again", x.best(), 38);
    x.wipe();
    Check.due("without text", x.taps(), 0);
    Check.due("it holds still", x.letter(25, 0), 9);
    Check.due("another one by no text", x.best(), 0);
    keysAre(x, "12345678999999999999999999");
    Still.usual(x = new NineKeys());
    x.best();
    Check.due("words stay", x.many(1), 3);
    Check.due("the text stays", x.many(5), 2);
    Check.due("the pressed stay", x.many(4), 2);
    Check.due("the pressed meet others now", x.offers(1, -1), 0);
  }

  // ---- 33

  private static void swapOfLikeKeys() {
    Still.due("all on one key", PressesEdges::allOnOneKey, x -> x.swap(), 0);
    // c and d on one key, the others on another one: c can't come ahead of d there.
    NineKeys x = withText("d");
    for (int l = 0; l < 26; l++) {
      x.deal(l, l == 2 || l == 3 ? 1 : 2);
    }
    Check.due("c goes", x.swap(), 1);
    keysAre(x, "22211222222222222222222222");
  }

  private static void allOnOneKey(NineKeys x) {
    Check.add(x, "zz", 1);
    x.put(0);
    for (int l = 0; l < 26; l++) {
      x.deal(l, 5);
    }
  }

  private static void swapIsLeast() {
    NineKeys x = withText("c", "f", "f");
    Check.due("f comes first, by two for each of two", x.swap(), 4);
    Check.due("c is where it was", x.letter(2, 0), 1);
    Check.due("f has another key", x.letter(5, 0) != 2, true);
    Check.due("then c", x.swap(), 2);
    Check.due("then nothing", x.swap(), 0);
    // With x on KEY 9 too, z is third there, and second on KEY 8, which v leaves.
    x = withText("z");
    x.deal(23, 9);
    Check.due("z on another key", x.swap(), 1);
    keysAre(x, "11122233344455566677798998");
    // c comes ahead of d, twice from 3 to 1, once from 1 to 2; a change with d itself would win less.
    x = withText("c", "c", "d", "g", "j", "m", "p", "s", "v", "y");
    Check.due("what others lose counts", x.swap(), 3);
    keysAre(x, "11221233344455566677788899");
    x = withText("zy", "zy", "zyz");
    int before = x.taps();
    int won = x.swap();
    Check.due("as much less as it says", x.taps(), before - won);
  }

  private static void swapOfEquals() {
    // By a change of a or b with any letter from d on b is first of its key: a and d are the least of these.
    NineKeys x = withText("b");
    Check.due("one less", x.swap(), 1);
    keysAre(x, "21112233344455566677788899");
    // c is first of any other key: d is the least letter of these.
    x = withText("c");
    Check.due("two less", x.swap(), 2);
    keysAre(x, "11212233344455566677788899");
    // b may change with d already, but a with g at first: with d, e or f it would come to e's key, or e to stand behind c.
    x = withText("eab");
    Check.due("two less, the least a ahead of the least b", x.swap(), 2);
    keysAre(x, "31122213344455566677788899");
  }

  private static void swapWins() {
    NineKeys x = withText("cc");
    int before = x.taps();
    Check.due("four less", x.swap(), 4);
    Check.due("taps then", x.taps(), before - 4);
    keysAre(x, "11212233344455566677788899");
    x = withText("ab");
    Check.due("b alone and no key twice", x.swap(), 2);
    Check.due("as few as can be", x.taps(), 3);
  }

  private static void swapWinsNothing() {
    Still.due("no words", x -> x.unspell(), x -> x.swap(), 0);
    Still.due("no text", PressesEdges::wiped, x -> x.swap(), 0);
    Still.due("a gone text", PressesEdges::goneText, x -> x.swap(), 0);
    Still.due("nothing can be less", PressesEdges::firstLetters, x -> x.swap(), 0);
    NineKeys x = new NineKeys();
    firstLetters(x);
    x.swap();
    keysAre(x, FIRST_DEAL);
  }

  private static void goneText(NineKeys x) {
    Check.add(x, "cc", 1);
    x.put(0);
    x.drop(0);
  }

  private static void firstLetters(NineKeys x) {
    Check.add(x, "adgjmpsvy", 1);
    x.put(0);
  }

  // ---- 34 to 36

  /** Forty words with the keys 1 2 3 4. */
  private static void fortyAlike(NineKeys x) {
    for (int n = 0; n < 40; n++) {
      String start = "" + (char) ('a' + n % 3) + (char) ('d' + n / 3 % 3) + (char) ('g' + n / 9 % 3);
      String word = start + (n < 27 ? "j" : "k");
      Check.due("word " + n, Check.add(x, word, 1), n);
    }
  }

  private static void clashOfOneToForty() {
    Still.due("one", x -> Check.add(x, "z", 1), x -> x.clash(), 1);
    Still.due("usual", Still::usual, x -> x.clash(), 2);
    Still.due("forty", PressesEdges::fortyAlike, x -> x.clash(), 40);
    NineKeys x = new NineKeys();
    Still.usual(x);
    x.drop(0);
    Check.due("without the gone", x.clash(), 1);
    x = new NineKeys();
    Check.add(x, "ab", 1);
    Check.add(x, "abc", 1);
    Check.add(x, "b", 1);
    Check.due("not by SLIDE", x.clash(), 1);
  }

  private static void clashOfNone() {
    Still.due("of a new object", x -> x.unspell(), x -> x.clash(), 0);
    Still.due("all gone", PressesEdges::allGone, x -> x.clash(), 0);
  }

  private static void allGone(NineKeys x) {
    Check.add(x, "a", 1);
    Check.add(x, "b", 1);
    x.drop(0);
    x.drop(1);
  }

  private static void clashingByNumbers() {
    Still.due("first", Still::usual, x -> x.clashing(0), 0);
    Still.due("last", Still::usual, x -> x.clashing(1), 1);
    Still.due("of one", x -> Check.add(x, "z", 1), x -> x.clashing(0), 0);
    Still.due("the last of forty", PressesEdges::fortyAlike, x -> x.clashing(39), 39);
    NineKeys x = new NineKeys();
    for (String word : new String[] {"z", "be", "cab", "ae", "bd", "ad"}) {
      Check.add(x, word, word.equals("ad") ? 9 : 1);
    }
    x.drop(3);
    int[] want = {1, 4, 5, -1};
    for (int i = 0; i < want.length; i++) {
      Check.due("clashing " + i, x.clashing(i), want[i]);
    }
  }

  private static void clashingOfEquals() {
    NineKeys x = new NineKeys();
    for (String word : new String[] {"z", "gj", "ad", "be", "hk"}) {
      Check.add(x, word, 1);
    }
    Check.due("the row of the least word", x.clashing(0), 1);
    Check.due("and its other one", x.clashing(1), 4);
    x.drop(1);
    Check.due("another row", x.clashing(0), 2);
    Check.due("and that one's other one", x.clashing(1), 3);
    x.drop(2);
    Check.due("each by itself", x.clash(), 1);
    Check.due("the least word", x.clashing(0), 0);
    x.drop(0);
    Check.due("the least that is there", x.clashing(0), 3);
  }

  private static void clashingOfNone() {
    for (int i : new int[] {-1, 2, 3, 80, MIN, MAX}) {
      Still.due("clashing(" + i + ")", Still::usual, x -> x.clashing(i), -1);
    }
    Still.due("of a new object", x -> x.unspell(), x -> x.clashing(0), -1);
    Still.due("all gone", PressesEdges::allGone, x -> x.clashing(0), -1);
    Still.due("beyond forty", PressesEdges::fortyAlike, x -> x.clashing(40), -1);
  }

  private static void clashesOfNoneToForty() {
    Still.due("of a new object", x -> x.unspell(), x -> x.clashes(), 0);
    Still.due("all gone", PressesEdges::allGone, x -> x.clashes(), 0);
    Still.due("one word", x -> Check.add(x, "z", 1), x -> x.clashes(), 0);
    Still.due("usual", Still::usual, x -> x.clashes(), 1);
    Still.due("forty", PressesEdges::fortyAlike, x -> x.clashes(), 780);
    NineKeys x = new NineKeys();
    for (String word : new String[] {"gj", "ad", "be", "hk", "cf", "z"}) {
      Check.add(x, word, 1);
    }
    Check.due("three and one", x.clashes(), 4);
    x.drop(2);
    Check.due("without the gone", x.clashes(), 2);
    Check.add(x, "aad", 1);
    Check.due("not by SLIDE", x.clashes(), 2);
  }
}

/** Promises 17 to 27, sentence by sentence. */
final class PressingEdges {
  private static final int MIN = Integer.MIN_VALUE;
  private static final int MAX = Integer.MAX_VALUE;
  private static final int[] NO_WORD_OF_FOUR = {-1, 4, 5, 79, 80, MIN, MAX};
  private static final int[] NO_KIND = {-1, 4, MIN, MAX};

  private PressingEdges() {
  }

  static void all(Edges edges) {
    keys(edges);
    offering(edges);
    learning(edges);
    writing(edges);
  }

  private static void keys(Edges edges) {
    edges.of("17");
    edges.test("A KEY comes to the end of THE PRESSED: how many it has", PressingEdges::pressAtTheEnd);
    edges.test("NUMBER: there is none such", PressingEdges::pressOfNone);
    edges.test("FULL: it has 12", PressingEdges::pressBeyondTwelve);
    edges.of("18");
    edges.test("The last KEY of THE PRESSED goes: how many it has then", PressingEdges::backFromTwelve);
    edges.test("STATE: it is empty", PressingEdges::backOfNothing);
  }

  private static void offering(Edges edges) {
    edges.of("19");
    edges.test("How many OFFERS THE PRESSED has, by a kind, within a limit", PressingEdges::offersNoneToForty);
    edges.test("NUMBER: kind isn't 0 to 3", PressingEdges::offersOfNoKind);
    edges.test("KIND: it is TAP", PressingEdges::offersByTap);
    edges.of("20");
    edges.test("OFFER i of these (from 0 on), a WORD", PressingEdges::offerFirstAndLast);
    edges.test("-1: there is none such", PressingEdges::offerOfNone);
    edges.test("no such kind", PressingEdges::offerOfNoKind);
    edges.test("or it is TAP", PressingEdges::offerByTap);
    edges.of("21");
    edges.test("by a kind, within the limit 100,000", PressingEdges::pricedAtTheLimit);
    edges.test("-1 if it isn't", PressingEdges::pricedOfNoOffer);
    edges.test("NUMBER is answered as -2 here: there is no such WORD", PressingEdges::pricedOfNoWord);
    edges.test("kind isn't 0 to 3", PressingEdges::pricedOfNoKind);
    edges.test("KIND: it is TAP", PressingEdges::pricedByTap);
  }

  private static void learning(Edges edges) {
    edges.of("22");
    edges.test("OFFER i is LEARNT, and THE PRESSED becomes empty: the WORD", PressingEdges::takeOfOne);
    edges.test("NUMBER: kind isn't 0 to 3", PressingEdges::takeOfNoKind);
    edges.test("KIND: it is TAP", PressingEdges::takeByTap);
    edges.test("NONE: there is no such OFFER", PressingEdges::takeOfNone);
    edges.test("FULL: THE TEXT has 60 WORDS", PressingEdges::takeBeyondSixty);
    edges.of("23");
    edges.test("THE SPELT is written by TAP, and is empty then", PressingEdges::thirdEmptiesTheSpelt);
    edges.test("if a WORD that is THERE is it, that is LEARNT: its number", PressingEdges::thirdOfAWord);
    edges.test("Else it counts among NEWCOMERS (1, if it is new there)", PressingEdges::thirdOfANewOne);
    edges.test("100 and how often, if that is below 3", PressingEdges::thirdBelowThree);
    edges.test("at the third time it comes as a WORD with the COUNT 2", PressingEdges::thirdAtTheThirdTime);
    edges.test("is no NEWCOMER any more", PressingEdges::thirdIsNoNewcomerThen);
    edges.test("STATE: it is empty", PressingEdges::thirdOfNothing);
    edges.test("FULL: THE TEXT has 60 WORDS and it would be LEARNT", PressingEdges::thirdBeyondSixty);
    edges.test("or it would come and there were 80 WORDS", PressingEdges::thirdBeyondEighty);
    edges.of("24");
    edges.test("how often THE SPELT counted", PressingEdges::newcomerCounted);
    edges.test("0 if it is none", PressingEdges::newcomerOfNone);
  }

  private static void writing(Edges edges) {
    edges.of("25");
    edges.test("A WORD comes to the end of THE TEXT; nothing is LEARNT: how many it has", PressingEdges::putAtTheEnd);
    edges.test("NUMBER: there is none such", PressingEdges::putOfNone);
    edges.test("STATE: it is GONE", PressingEdges::putOfGone);
    edges.test("FULL", PressingEdges::putBeyondSixty);
    edges.of("26");
    edges.test("THE TEXT becomes empty: how many WORDS it had", PressingEdges::wipeOfNoneAndSixty);
    edges.of("27");
    edges.test("WORD i of THE TEXT", PressingEdges::textFirstAndLast);
    edges.test("-1 if there is none such", PressingEdges::textOfNone);
  }

  // ---- 17 and 18

  private static void pressAtTheEnd() {
    NineKeys x = new NineKeys();
    Check.add(x, "az", 1);
    Check.due("the first key", x.press(1), 1);
    Check.due("the last key", x.press(9), 2);
    Check.due("in this order", x.offers(1, -1), 1);
    for (int n = 3; n <= 12; n++) {
      Check.due("press " + n, x.press(5), n);
    }
    Check.due("twelve", x.many(4), 12);
  }

  private static void pressOfNone() {
    for (int key : new int[] {0, 10, -1, MIN, MAX}) {
      Still.due("press(" + key + ")", Still::usual, x -> x.press(key), NineKeys.NUMBER);
    }
  }

  /** THE PRESSED has 12 keys, the first 10 of which are the keys of word 4. */
  private static void twelvePressed(NineKeys x) {
    Still.usual(x);
    Check.add(x, "adgjmpsvya", 1);
    Check.press(x, "123456789111");
  }

  private static void pressBeyondTwelve() {
    Still.due("press(1)", x -> twelvePressed(x), x -> x.press(1), NineKeys.FULL);
    NineKeys x = new NineKeys();
    twelvePressed(x);
    x.press(9);
    x.back();
    Check.due("the twelfth again", x.press(9), 12);
    x.back();
    x.back();
    Check.due("the first ten are as they were", x.priced(1, 4), 0);
  }

  private static void backFromTwelve() {
    NineKeys x = new NineKeys();
    twelvePressed(x);
    Check.due("twelve offer none", x.priced(1, 4), -1);
    Check.due("eleven", x.back(), 11);
    Check.due("eleven offer one by a slip", x.priced(1, 4), 100);
    Check.due("ten", x.back(), 10);
    Check.due("ten meet it", x.priced(1, 4), 0);
    for (int n = 9; n >= 0; n--) {
      Check.due("back", x.back(), n);
    }
  }

  private static void backOfNothing() {
    Still.due("of a new object", x -> x.unspell(), x -> x.back(), NineKeys.STATE);
    Still.due("behind all", x -> nothingPressed(x), x -> x.back(), NineKeys.STATE);
    NineKeys x = new NineKeys();
    Still.usual(x);
    x.take(1, -1, 0);
    Check.due("behind take", x.back(), NineKeys.STATE);
  }

  private static void nothingPressed(NineKeys x) {
    Still.usual(x);
    Check.press(x, "");
  }

  // ---- 19 to 21

  private static void offersNoneToForty() {
    Still.due("no words", x -> x.press(1), x -> x.offers(1, MAX), 0);
    Still.due("two", Still::usual, x -> x.offers(1, MIN), 2);
    Still.due("two, by slide", Still::usual, x -> x.offers(2, MIN), 2);
    Still.due("none", x -> pressedNine(x), x -> x.offers(3, MAX), 0);
    Still.due("forty", Still::fortyOfOneKey, x -> x.offers(3, -1), 40);
    Still.due("forty by slide", Still::fortyOfOneKey, x -> x.offers(2, -1), 40);
    Still.due("three by guess", Still::fortyOfOneKey, x -> x.offers(1, -1), 3);
    Still.due("twelve by guess and a slip", Still::fortyOfOneKey, x -> x.offers(1, 100000), 12);
  }

  private static void pressedNine(NineKeys x) {
    Still.usual(x);
    Check.press(x, "9");
  }

  private static void offersOfNoKind() {
    for (int kind : NO_KIND) {
      Still.due("offers(" + kind + ", 0)", Still::usual, x -> x.offers(kind, 0), NineKeys.NUMBER);
    }
  }

  private static void offersByTap() {
    Still.due("offers(0, 0)", Still::usual, x -> x.offers(0, 0), NineKeys.KIND);
    Still.due("offers(0, 0) of none", x -> x.unspell(), x -> x.offers(0, 0), NineKeys.KIND);
  }

  private static void offerFirstAndLast() {
    Still.due("first", Still::usual, x -> x.offer(1, -1, 0), 1);
    Still.due("last", Still::usual, x -> x.offer(1, -1, 1), 0);
    NineKeys x = new NineKeys();
    Still.fortyOfOneKey(x);
    String last = "";
    for (int i = 0; i < 40; i++) {
      int w = x.offer(3, -1, i);
      String letters = "";
      for (int j = 0; j < x.word(w, 0); j++) {
        letters += (char) ('a' + x.word(w, 10 + j));
      }
      Check.due("offer " + i + " stands behind " + last, letters.compareTo(last) > 0, true);
      last = letters;
    }
    Check.due("the last of forty", x.offer(3, -1, 39), 39);
  }

  private static void offerOfNone() {
    for (int i : new int[] {-1, 2, 3, 40, MIN, MAX}) {
      Still.due("offer(1, -1, " + i + ")", Still::usual, x -> x.offer(1, -1, i), -1);
    }
    Still.due("no words", x -> x.press(1), x -> x.offer(1, MAX, 0), -1);
    Still.due("no offers", x -> pressedNine(x), x -> x.offer(3, MAX, 0), -1);
    Still.due("beyond forty", Still::fortyOfOneKey, x -> x.offer(3, MAX, 40), -1);
    Still.due("beyond twelve", Still::fortyOfOneKey, x -> x.offer(1, MAX, 12), -1);
  }

  private static void offerOfNoKind() {
    for (int kind : NO_KIND) {
      Still.due("offer(" + kind + ", 0, 0)", Still::usual, x -> x.offer(kind, 0, 0), -1);
    }
  }

  private static void offerByTap() {
    Still.due("offer(0, 0, 0)", Still::usual, x -> x.offer(0, 0, 0), -1);
  }

  private static void pricedAtTheLimit() {
    Still.due("met", Still::usual, x -> x.priced(1, 0), 0);
    NineKeys x = new NineKeys();
    Check.add(x, "ad", 1);
    Check.press(x, "1");
    Check.due("at 100,000", x.priced(1, 0), 100000);
    Check.due("by slide", x.priced(2, 0), 100000);
    Check.due("by shorter", x.priced(3, 0), 0);
    x.price(1, 99999);
    Check.due("at 99,999", x.priced(1, 0), 99999);
    x.price(1, 0);
    Check.due("at nothing", x.priced(1, 0), 0);
  }

  private static void pricedOfNoOffer() {
    Still.due("too long", Still::usual, x -> x.priced(3, 2), -1);
    Still.due("another row", x -> pressedNine(x), x -> x.priced(1, 0), -1);
    Still.due("another row, by slide", x -> pressedNine(x), x -> x.priced(2, 0), -1);
    Still.due("another row, by shorter", x -> pressedNine(x), x -> x.priced(3, 0), -1);
    Still.due("nothing pressed", x -> nothingPressed(x), x -> x.priced(1, 0), -1);
    Still.due("nothing pressed, by shorter", x -> nothingPressed(x), x -> x.priced(3, 0), -1);
    for (int kind = 1; kind < 4; kind++) {
      int some = kind;
      Still.due("gone, by " + kind, x -> pressedTheGone(x), x -> x.priced(some, 3), -1);
    }
  }

  private static void pressedTheGone(NineKeys x) {
    Still.usual(x);
    Check.press(x, "6");
  }

  private static void pricedOfNoWord() {
    for (int w : NO_WORD_OF_FOUR) {
      for (int kind = 0; kind < 4; kind++) {
        int some = kind;
        Still.due("priced(" + kind + ", " + w + ")", Still::usual, x -> x.priced(some, w), -2);
      }
    }
  }

  private static void pricedOfNoKind() {
    for (int kind : NO_KIND) {
      Still.due("priced(" + kind + ", 0)", Still::usual, x -> x.priced(kind, 0), -2);
      Still.due("priced(" + kind + ", 3) of a gone one", Still::usual, x -> x.priced(kind, 3), -2);
    }
  }

  private static void pricedByTap() {
    Still.due("priced(0, 0)", Still::usual, x -> x.priced(0, 0), NineKeys.KIND);
    Still.due("priced(0, 3) of a gone one", Still::usual, x -> x.priced(0, 3), NineKeys.KIND);
  }

  // ---- 22

  private static void takeOfOne() {
    for (int kind = 1; kind < 4; kind++) {
      NineKeys x = new NineKeys();
      Still.usual(x);
      Check.due("the first by " + kind, x.take(kind, -1, 0), 1);
      Check.due("pressed is empty", x.many(4), 0);
      Check.due("count", x.word(1, 1), 10);
      Check.due("use", x.word(1, 2), 5);
      Check.due("clock", x.many(7), 5);
      Check.due("pair", x.paired(0, 1), 8);
      Check.due("text", x.text(2), 1);
      Check.due("spelt stays", x.many(3), 2);
      Check.due("newcomers stay", x.many(6), 2);
      Check.press(x, "12");
      Check.due("the last by " + kind, x.take(kind, -1, x.offers(kind, -1) - 1) >= 0, true);
    }
    NineKeys x = new NineKeys();
    Still.usual(x);
    Check.press(x, "13");
    Check.due("one by a slip", x.take(1, 300, 1), 0);
    Check.due("pressed is empty behind a slip", x.many(4), 0);
  }

  private static void takeOfNoKind() {
    for (int kind : NO_KIND) {
      Still.due("take(" + kind + ", 0, 0)", Still::usual, x -> x.take(kind, 0, 0), NineKeys.NUMBER);
    }
  }

  private static void takeByTap() {
    Still.due("take(0, 0, 0)", Still::usual, x -> x.take(0, 0, 0), NineKeys.KIND);
  }

  private static void takeOfNone() {
    for (int i : new int[] {-1, 2, 40, MIN, MAX}) {
      Still.due("take(1, -1, " + i + ")", Still::usual, x -> x.take(1, -1, i), NineKeys.NONE);
    }
    Still.due("no words", x -> x.press(1), x -> x.take(1, MAX, 0), NineKeys.NONE);
    Still.due("nothing pressed", x -> nothingPressed(x), x -> x.take(3, MAX, 0), NineKeys.NONE);
    Still.due("a slip below its price", x -> slipPressed(x), x -> x.take(1, 299, 0), NineKeys.NONE);
    Still.due("a gone one", x -> pressedTheGone(x), x -> x.take(1, -1, 0), NineKeys.NONE);
  }

  private static void slipPressed(NineKeys x) {
    Still.usual(x);
    Check.press(x, "13");
  }

  private static void fullText(NineKeys x) {
    Still.usual(x);
    Still.fillText(x, 1);
  }

  private static void takeBeyondSixty() {
    for (int kind = 1; kind < 4; kind++) {
      int some = kind;
      Still.due("take(" + kind + ", 0, 0)", x -> fullText(x), x -> x.take(some, 0, 0), NineKeys.FULL);
    }
    NineKeys x = new NineKeys();
    Check.add(x, "ad", 1);
    for (int n = 0; n < 59; n++) {
      x.put(0);
    }
    Check.press(x, "12");
    Check.due("the sixtieth", x.take(1, 0, 0), 0);
    Check.due("sixty", x.many(5), 60);
    Check.press(x, "12");
    Check.due("no more", x.take(1, 0, 0), NineKeys.FULL);
    x.wipe();
    Check.due("room again", x.take(1, 0, 0), 0);
  }

  // ---- 23 and 24

  private static void thirdEmptiesTheSpelt() {
    NineKeys x = new NineKeys();
    for (int n = 1; n <= 4; n++) {
      Check.third(x, "abcdefghij");
      Check.due("empty at time " + n, x.many(3), 0);
    }
  }

  private static void thirdOfAWord() {
    NineKeys x = new NineKeys();
    Still.usual(x);
    Check.due("the first word", Check.third(x, "ad"), 0);
    Check.due("count", x.word(0, 1), 6);
    Check.due("use", x.word(0, 2), 5);
    Check.due("pair", x.paired(0, 0), 1);
    Check.due("text", x.text(2), 0);
    Check.due("the last word", Check.third(x, "cab"), 2);
    Check.due("no newcomers by that", x.many(6), 2);
    Check.due("pressed stays", x.many(4), 2);
    Check.due("no word by that", x.many(0), 4);
    x = new NineKeys();
    Check.third(x, "xy");
    Check.third(x, "xy");
    Check.add(x, "xy", 5);
    Check.due("one that came by add ahead of its third time", Check.third(x, "xy"), 0);
    Check.due("it is learnt", x.word(0, 1), 6);
    Check.due("and doesn't come again", x.many(0), 1);
  }

  private static void thirdOfANewOne() {
    NineKeys x = new NineKeys();
    Check.due("new", Check.third(x, "a"), 101);
    Check.due("newcomers", x.many(6), 1);
    Check.due("another one", Check.third(x, "ab"), 101);
    Check.due("newcomers then", x.many(6), 2);
    Check.due("no word", x.many(0), 0);
    Check.due("no text", x.many(5), 0);
    Check.due("no clock", x.many(7), 0);
    Still.usual(x = new NineKeys());
    Check.due("one that is gone is new", Check.third(x, "q"), 101);
  }

  private static void thirdBelowThree() {
    NineKeys x = new NineKeys();
    Check.due("once", Check.third(x, "a"), 101);
    Check.due("twice", Check.third(x, "a"), 102);
    Check.due("still no word", x.many(0), 0);
    Check.due("still no text", x.many(5), 0);
    Check.due("one newcomer", x.many(6), 1);
    Check.spell(x, "a");
    Check.due("counted", x.newcomer(), 2);
  }

  private static void thirdAtTheThirdTime() {
    NineKeys x = new NineKeys();
    Still.usual(x);
    Check.due("the third time", x.third(), 4);
    Check.due("count 2, learnt", x.word(4, 1), 3);
    Check.due("use", x.word(4, 2), 6);
    Check.due("clock", x.many(7), 6);
    Check.due("there", x.word(4, 3), 1);
    Check.due("x", x.word(4, 10), 23);
    Check.due("y", x.word(4, 11), 24);
    Check.due("pair with the latest", x.paired(0, 4), 1);
    Check.due("text", x.text(2), 4);
    Check.due("the fourth time", Check.third(x, "xy"), 4);
    Check.due("count then", x.word(4, 1), 4);
  }

  private static void thirdIsNoNewcomerThen() {
    NineKeys x = new NineKeys();
    Still.usual(x);
    x.third();
    Check.due("newcomers", x.many(6), 1);
    Check.spell(x, "xy");
    Check.due("it is none", x.newcomer(), 0);
    Check.spell(x, "xz");
    Check.due("the other one is", x.newcomer(), 1);
    x.drop(4);
    Check.due("gone, it is new again", Check.third(x, "xy"), 101);
  }

  private static void thirdOfNothing() {
    Still.due("of a new object", x -> x.wipe(), x -> x.third(), NineKeys.STATE);
    Still.due("behind third", x -> Check.third(x, "xy"), x -> x.third(), NineKeys.STATE);
    Still.due("text being full", x -> fullTextNothingSpelt(x), x -> x.third(), NineKeys.STATE);
  }

  private static void fullTextNothingSpelt(NineKeys x) {
    fullText(x);
    x.unspell();
  }

  private static void fullTextSpelt(NineKeys x, String spelt) {
    fullText(x);
    Check.spell(x, spelt);
  }

  private static void thirdBeyondSixty() {
    Still.due("a word", x -> fullTextSpelt(x, "ad"), x -> x.third(), NineKeys.FULL);
    Still.due("the third time", x -> fullTextSpelt(x, "xy"), x -> x.third(), NineKeys.FULL);
    NineKeys x = new NineKeys();
    fullText(x);
    Check.due("the first time", Check.third(x, "wxyz"), 101);
    Check.due("the second time", Check.third(x, "wxyz"), 102);
    Check.due("refused", Check.third(x, "wxyz"), NineKeys.FULL);
    x.wipe();
    Check.due("room for it", x.third(), 4);
    for (int n = 1; n < 59; n++) {
      x.put(0);
    }
    Check.due("the sixtieth", Check.third(x, "ad"), 0);
    Check.due("sixty", x.many(5), 60);
  }

  /** 80 words came, and "xy" was written twice; few are there if so told. */
  private static void eightyAndANewcomer(NineKeys x, boolean few) {
    Still.fillWords(x, 80);
    for (int w = 0; few && w < 79; w++) {
      x.drop(w);
    }
    Check.third(x, "xy");
    Check.third(x, "xy");
    Check.spell(x, "xy");
  }

  private static void thirdBeyondEighty() {
    Still.due("forty being there", x -> eightyAndANewcomer(x, false), x -> x.third(), NineKeys.FULL);
    Still.due("one being there", x -> eightyAndANewcomer(x, true), x -> x.third(), NineKeys.FULL);
    NineKeys x = new NineKeys();
    eightyAndANewcomer(x, false);
    Check.due("a word is learnt", Check.third(x, Check.name(79)), 79);
    Check.due("a new one counts", Check.third(x, "xz"), 101);
    Check.due("and again", Check.third(x, "xz"), 102);
    x = new NineKeys();
    Still.fillWords(x, 79);
    Check.third(x, "xy");
    Check.third(x, "xy");
    Check.due("the 80th comes", Check.third(x, "xy"), 79);
  }

  private static void newcomerCounted() {
    Still.due("twice", Still::usual, x -> x.newcomer(), 2);
    Still.due("once", x -> spelt(x, "xz"), x -> x.newcomer(), 1);
    NineKeys x = new NineKeys();
    Still.usual(x);
    Check.add(x, "xy", 1);
    Check.spell(x, "xy");
    Check.due("a word that came by add is one still", x.newcomer(), 2);
  }

  private static void spelt(NineKeys x, String spelt) {
    Still.usual(x);
    Check.spell(x, spelt);
  }

  private static void newcomerOfNone() {
    Still.due("no newcomers", x -> Check.spell(x, "xy"), x -> x.newcomer(), 0);
    for (String row : new String[] {"", "x", "xyz", "yx", "ad", "q"}) {
      Still.due("newcomer " + row, x -> spelt(x, row), x -> x.newcomer(), 0);
    }
    NineKeys x = new NineKeys();
    for (int n = 0; n < 9; n++) {
      Check.third(x, Check.name(n));
    }
    Check.spell(x, Check.name(0));
    Check.due("one that went", x.newcomer(), 0);
  }

  // ---- 25 to 27

  private static void putAtTheEnd() {
    NineKeys x = new NineKeys();
    Still.usual(x);
    for (int n = 3; n <= 60; n++) {
      Check.due("put " + n, x.put(n % 3), n);
      Check.due("text " + n, x.text(n - 1), n % 3);
    }
    for (int w = 0; w < 3; w++) {
      Check.due("count " + w, x.word(w, 1), new int[] {5, 9, 3}[w]);
      Check.due("use " + w, x.word(w, 2), w + 1);
    }
    Check.due("pairs", x.many(2), 3);
    Check.due("pair", x.paired(0, 1), 7);
    Check.due("clock", x.many(7), 4);
    Check.due("pressed", x.many(4), 2);
  }

  private static void putOfNone() {
    for (int w : NO_WORD_OF_FOUR) {
      Still.due("put(" + w + ")", Still::usual, x -> x.put(w), NineKeys.NUMBER);
    }
  }

  private static void putOfGone() {
    Still.due("dropped", Still::usual, x -> x.put(3), NineKeys.STATE);
    Still.due("let go", x -> Still.fillWords(x, 41), x -> x.put(0), NineKeys.STATE);
  }

  private static void putBeyondSixty() {
    Still.due("put(0)", x -> fullText(x), x -> x.put(0), NineKeys.FULL);
    Still.due("put(2)", x -> fullText(x), x -> x.put(2), NineKeys.FULL);
  }

  private static void wipeOfNoneAndSixty() {
    Still.due("none", x -> Check.add(x, "ad", 1), x -> x.wipe(), 0);
    NineKeys x = new NineKeys();
    fullText(x);
    Check.due("sixty", x.wipe(), 60);
    Check.due("none then", x.many(5), 0);
    Check.due("no word 0 of it", x.text(0), -1);
    Check.due("words stay", x.many(1), 3);
    Check.due("pairs stay", x.many(2), 3);
    Check.due("room", x.put(0), 1);
  }

  private static void textFirstAndLast() {
    Still.due("first", Still::usual, x -> x.text(0), 2);
    Still.due("last", Still::usual, x -> x.text(1), 0);
    Still.due("the sixtieth", x -> fullText(x), x -> x.text(59), 1);
    NineKeys x = new NineKeys();
    Still.usual(x);
    x.drop(2);
    Check.due("a gone one is there still", x.text(0), 2);
    Check.due("and counts", x.many(5), 2);
  }

  private static void textOfNone() {
    for (int i : new int[] {-1, 2, 59, 60, MIN, MAX}) {
      Still.due("text(" + i + ")", Still::usual, x -> x.text(i), -1);
    }
    Still.due("text(0) of none", x -> x.unspell(), x -> x.text(0), -1);
    Still.due("text(60) of sixty", x -> fullText(x), x -> x.text(60), -1);
    NineKeys x = new NineKeys();
    fullText(x);
    x.wipe();
    Check.due("text(0) of a wiped one", x.text(0), -1);
  }
}

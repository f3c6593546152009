/** Promises 5 to 16, sentence by sentence. */
final class WordsEdges {
  private static final int MIN = Integer.MIN_VALUE;
  private static final int MAX = Integer.MAX_VALUE;
  private static final int[] NO_WORD_OF_FOUR = {-1, 4, 5, 79, 80, MIN, MAX};
  private static final int[] NO_COUNT = {0, -1, 1000001, MIN, MAX};

  private WordsEdges() {
  }

  static void all(Edges edges) {
    spelling(edges);
    coming(edges);
    counting(edges);
    asking(edges);
    setting(edges);
  }

  private static void spelling(Edges edges) {
    edges.of("5");
    edges.test("LETTERS come to the end of THE SPELT", WordsEdges::spellAtTheEnd);
    edges.test("those ahead of the first that is -1: how many it has", WordsEdges::spellUpToMinusOne);
    edges.test("NUMBER: one of these isn't 0 to 25", WordsEdges::spellOfNoLetter);
    edges.test("FULL: it would have more than 10", WordsEdges::spellBeyondTen);
    edges.of("6");
    edges.test("THE SPELT becomes empty: how many LETTERS it had", WordsEdges::unspellOfNoneAndTen);
  }

  private static void coming(Edges edges) {
    edges.of("7");
    edges.test("THE SPELT comes as a WORD, and is empty then: the WORD's number", WordsEdges::addOfOne);
    edges.test("NUMBER: count isn't 1 to 1,000,000", WordsEdges::addOfNoCount);
    edges.test("STATE: it is empty", WordsEdges::addOfNothing);
    edges.test("TWICE: a WORD that is THERE is it", WordsEdges::addTwice);
    edges.test("FULL: there were 80", WordsEdges::addBeyondEighty);
    edges.of("8");
    edges.test("A WORD is GONE, with its PAIRS: 1", WordsEdges::dropWithPairs);
    edges.test("NUMBER: there is none such", WordsEdges::dropOfNone);
    edges.test("STATE: it is already", WordsEdges::dropOfGone);
  }

  private static void counting(Edges edges) {
    edges.of("9");
    edges.test("The COUNT of a WORD is another one: 1", WordsEdges::countAtItsEnds);
    edges.test("NUMBER: there is none such", WordsEdges::countOfNone);
    edges.test("or count isn't 1 to 1,000,000", WordsEdges::countOfNoCount);
    edges.test("STATE: it is GONE", WordsEdges::countOfGone);
    edges.of("10");
    edges.test("The COUNT of a PAIR is another one", WordsEdges::pairAtItsEnds);
    edges.test("(0: it has none)", WordsEdges::pairOfNothing);
    edges.test("NUMBER: there is no such WORD", WordsEdges::pairOfNoWord);
    edges.test("or count isn't 0 to 1,000,000", WordsEdges::pairOfNoCount);
    edges.test("STATE: one is GONE", WordsEdges::pairOfGone);
    edges.test("FULL: it has none, and 150 PAIRS have", WordsEdges::pairBeyond150);
    edges.test("(also if count is 0)", WordsEdges::pairOfNothingBeyond150);
  }

  private static void asking(Edges edges) {
    edges.of("11");
    edges.test("what = 0 how many LETTERS", WordsEdges::wordsLetters);
    edges.test("1 its COUNT, 2 its USE", WordsEdges::wordsCountAndUse);
    edges.test("3 1 if it is THERE, else 0", WordsEdges::wordThereOrNot);
    edges.test("4 its RATE (0 if it is GONE)", WordsEdges::wordsRate);
    edges.test("10 + i: LETTER i", WordsEdges::wordsLetterI);
    edges.test("-1: there is none such", WordsEdges::wordOfNone);
    edges.test("another what", WordsEdges::wordOfAnotherWhat);
    edges.of("12");
    edges.test("The COUNT of a PAIR", WordsEdges::pairedOfAll);
    edges.test("-1 if there is no such WORD", WordsEdges::pairedOfNoWord);
    edges.of("13");
    edges.test("The WORD that is THERE and is THE SPELT", WordsEdges::findOfOne);
    edges.test("-1 if there is none", WordsEdges::findOfNone);
    edges.of("14");
    edges.test("what = 0 WORDS that came, 1 that are THERE, 2 PAIRS with a COUNT", WordsEdges::manyOfABook);
    edges.test("3 LETTERS of THE SPELT, 4 KEYS of THE PRESSED, 5 WORDS of THE TEXT", WordsEdges::manyOfRows);
    edges.test("6 NEWCOMERS, 7 THE CLOCK, 8 the SHARE", WordsEdges::manyOfTheRest);
    edges.test("-1 for another what", WordsEdges::manyOfAnotherWhat);
  }

  private static void setting(Edges edges) {
    edges.of("15");
    edges.test("The SHARE is another one: 1", WordsEdges::shareAtItsEnds);
    edges.test("NUMBER: it isn't 0 to 100", WordsEdges::shareOfNone);
    edges.of("16");
    edges.test("The PRICE of a SLIP is another one: 1", WordsEdges::priceAtItsEnds);
    edges.test("NUMBER: slip isn't 0 to 2", WordsEdges::priceOfNoSlip);
    edges.test("or price not 0 to 100,000", WordsEdges::priceOfNoPrice);
  }

  // ---- 5 and 6

  private static void spellAtTheEnd() {
    NineKeys x = new NineKeys();
    Check.due("two", x.spell(0, 25, -1, 0, 0), 2);
    Check.due("five more", x.spell(1, 2, 3, 4, 5), 7);
    x.add(1);
    int[] want = {0, 25, 1, 2, 3, 4, 5, -1};
    for (int i = 0; i < want.length; i++) {
      Check.due("letter " + i, x.word(0, 10 + i), want[i]);
    }
  }

  private static void spellUpToMinusOne() {
    NineKeys x = new NineKeys();
    Check.due("none", x.spell(-1, 26, MIN, MAX, -2), 0);
    Check.due("one", x.spell(7, -1, 26, -2, MAX), 1);
    Check.due("two", x.spell(7, 7, -1, 99, -1), 3);
    Check.due("four", x.spell(1, 2, 3, 4, -1), 7);
    Check.due("a second -1 says nothing", x.spell(-1, -1, 3, -1, 3), 7);
    Still.due("spell(-1, ..) of none", y -> y.unspell(), y -> y.spell(-1, 0, 0, 0, 0), 0);
    Still.due("spell(-1, ..)", Still::usual, y -> y.spell(-1, 0, 0, 0, 0), 2);
  }

  private static void spellOfNoLetter() {
    for (int l : new int[] {-2, 26, MIN, MAX}) {
      Still.due("first " + l, Still::usual, x -> x.spell(l, -1, 0, 0, 0), NineKeys.NUMBER);
      Still.due("second " + l, Still::usual, x -> x.spell(0, l, -1, 0, 0), NineKeys.NUMBER);
      Still.due("third " + l, Still::usual, x -> x.spell(0, 1, l, -1, 0), NineKeys.NUMBER);
      Still.due("fourth " + l, Still::usual, x -> x.spell(0, 1, 2, l, -1), NineKeys.NUMBER);
      Still.due("fifth " + l, Still::usual, x -> x.spell(0, 1, 2, 3, l), NineKeys.NUMBER);
    }
  }

  private static void spellBeyondTen() {
    NineKeys x = new NineKeys();
    x.spell(0, 1, 2, 3, 4);
    Check.due("just ten", x.spell(5, 6, 7, 8, 9), 10);
    Check.due("none to ten", x.spell(-1, 0, 0, 0, 0), 10);
    Still.due("one to ten", y -> Check.spell(y, "abcdefghij"), y -> y.spell(0, -1, 0, 0, 0), NineKeys.FULL);
    Still.due("two to nine", y -> Check.spell(y, "abcdefghi"), y -> y.spell(0, 1, -1, 0, 0), NineKeys.FULL);
    Still.due("five to six", y -> Check.spell(y, "abcdef"), y -> y.spell(0, 1, 2, 3, 4), NineKeys.FULL);
    Still.due("five to ten", y -> Check.spell(y, "abcdefghij"), y -> y.spell(0, 1, 2, 3, 4), NineKeys.FULL);
  }

  private static void unspellOfNoneAndTen() {
    Still.due("none", y -> Check.add(y, "ad", 1), y -> y.unspell(), 0);
    NineKeys x = new NineKeys();
    Check.spell(x, "abcdefghij");
    Check.due("ten", x.unspell(), 10);
    Check.due("none then", x.many(3), 0);
    Check.due("room then", x.spell(1, 1, 1, 1, 1), 5);
  }

  // ---- 7 and 8

  private static void addOfOne() {
    NineKeys x = new NineKeys();
    Check.due("first", Check.add(x, "a", 1), 0);
    Check.due("empty then", x.many(3), 0);
    Check.due("second", Check.add(x, "abcdefghij", 1000000), 1);
    Check.due("empty again", x.many(3), 0);
    Check.due("ten letters", x.word(1, 0), 10);
    Check.due("count", x.word(1, 1), 1000000);
    Check.due("the least count", x.word(0, 1), 1);
    Check.due("there", x.word(1, 3), 1);
  }

  private static void addOfNoCount() {
    for (int count : NO_COUNT) {
      Still.due("add(" + count + ")", Still::usual, x -> x.add(count), NineKeys.NUMBER);
    }
  }

  private static void addOfNothing() {
    Still.due("of a new object", x -> x.unspell(), x -> x.add(1), NineKeys.STATE);
    Still.due("behind unspell", x -> emptySpelt(x), x -> x.add(1), NineKeys.STATE);
    Still.due("behind add", x -> Check.add(x, "ad", 1), x -> x.add(1), NineKeys.STATE);
    Still.due("behind third", x -> Check.third(x, "xy"), x -> x.add(1), NineKeys.STATE);
  }

  private static void emptySpelt(NineKeys x) {
    Still.usual(x);
    x.unspell();
  }

  private static void usualSpelt(NineKeys x, String spelt) {
    Still.usual(x);
    Check.spell(x, spelt);
  }

  private static void addTwice() {
    Still.due("ad", x -> usualSpelt(x, "ad"), x -> x.add(1), NineKeys.TWICE);
    Still.due("cab", x -> usualSpelt(x, "cab"), x -> x.add(1), NineKeys.TWICE);
    NineKeys x = new NineKeys();
    Still.usual(x);
    Check.due("a gone one comes again", Check.add(x, "q", 6), 4);
    Check.due("the start of one", Check.add(x, "a", 1), 5);
    Check.due("one and more", Check.add(x, "add", 1), 6);
    Check.due("another end", Check.add(x, "ae", 1), 7);
    Check.due("another start", Check.add(x, "bd", 1), 8);
    Check.due("the gone one twice now", Check.add(x, "q", 6), NineKeys.TWICE);
  }

  private static void addBeyondEighty() {
    NineKeys x = new NineKeys();
    Still.fillWords(x, 79);
    Check.due("the 80th", Check.add(x, "zz", 1), 79);
    Still.due("the 81st", y -> eighty(y), y -> y.add(1), NineKeys.FULL);
    Still.due("the 81st, few being there", y -> eightyAlmostAllGone(y), y -> y.add(1), NineKeys.FULL);
  }

  private static void eighty(NineKeys x) {
    Still.fillWords(x, 80);
    Check.spell(x, "xy");
  }

  private static void eightyAlmostAllGone(NineKeys x) {
    Still.fillWords(x, 80);
    for (int w = 0; w < 79; w++) {
      x.drop(w);
    }
    Check.spell(x, "xy");
  }

  private static void dropWithPairs() {
    NineKeys x = new NineKeys();
    Still.usual(x);
    x.pair(0, 0, 4);
    x.pair(1, 2, 8);
    Check.due("drop", x.drop(0), 1);
    Check.due("gone", x.word(0, 3), 0);
    Check.due("there", x.many(1), 2);
    Check.due("came", x.many(0), 4);
    Check.due("pairs", x.many(2), 2);
    Check.due("0 0", x.paired(0, 0), 0);
    Check.due("0 1", x.paired(0, 1), 0);
    Check.due("1 0", x.paired(1, 0), 0);
    Check.due("1 2 stays", x.paired(1, 2), 8);
    Check.due("2 2 stays", x.paired(2, 2), 1);
    Check.due("it is no offer", x.offers(1, -1), 1);
    Check.due("drop the last", x.drop(2), 1);
    Check.due("and the only one", x.drop(1), 1);
    Check.due("none is there", x.many(1), 0);
    Check.due("no pairs", x.many(2), 0);
  }

  private static void dropOfNone() {
    for (int w : NO_WORD_OF_FOUR) {
      Still.due("drop(" + w + ")", Still::usual, x -> x.drop(w), NineKeys.NUMBER);
    }
    Still.due("drop(0) of none", x -> x.unspell(), x -> x.drop(0), NineKeys.NUMBER);
    Still.due("drop(80) of eighty", x -> Still.fillWords(x, 80), x -> x.drop(80), NineKeys.NUMBER);
  }

  private static void dropOfGone() {
    Still.due("dropped", Still::usual, x -> x.drop(3), NineKeys.STATE);
    Still.due("let go", x -> Still.fillWords(x, 41), x -> x.drop(0), NineKeys.STATE);
  }

  // ---- 9 and 10

  private static void countAtItsEnds() {
    NineKeys x = new NineKeys();
    Still.usual(x);
    for (int count : new int[] {1, 1000000, 2, 2}) {
      Check.due("count(0, " + count + ")", x.count(0, count), 1);
      Check.due("then", x.word(0, 1), count);
    }
    Check.due("another one stays", x.word(1, 1), 9);
    Check.due("use stays", x.word(0, 2), 1);
    Check.due("the clock stays", x.many(7), 4);
  }

  private static void countOfNone() {
    for (int w : NO_WORD_OF_FOUR) {
      Still.due("count(" + w + ", 1)", Still::usual, x -> x.count(w, 1), NineKeys.NUMBER);
    }
  }

  private static void countOfNoCount() {
    for (int count : NO_COUNT) {
      Still.due("count(0, " + count + ")", Still::usual, x -> x.count(0, count), NineKeys.NUMBER);
    }
  }

  private static void countOfGone() {
    Still.due("count(3, 1)", Still::usual, x -> x.count(3, 1), NineKeys.STATE);
    Still.due("count(0, 1) of one let go", x -> Still.fillWords(x, 41), x -> x.count(0, 1), NineKeys.STATE);
  }

  private static void pairAtItsEnds() {
    NineKeys x = new NineKeys();
    Still.usual(x);
    for (int count : new int[] {1, 1000000, 1, 1}) {
      Check.due("new: pair(2, 0, " + count + ")", x.pair(2, 0, count), 1);
      Check.due("then", x.paired(2, 0), count);
      Check.due("known: pair(0, 1, " + count + ")", x.pair(0, 1, count), 1);
      Check.due("then that", x.paired(0, 1), count);
      Check.due("pairs", x.many(2), 4);
    }
    Check.due("the other way stays", x.paired(1, 0), 2);
    Check.due("with itself", x.pair(0, 0, 5), 1);
    Check.due("itself then", x.paired(0, 0), 5);
  }

  private static void pairOfNothing() {
    NineKeys x = new NineKeys();
    Still.usual(x);
    Check.due("pair(0, 1, 0)", x.pair(0, 1, 0), 1);
    Check.due("none", x.paired(0, 1), 0);
    Check.due("others stay", x.paired(1, 0), 2);
    Check.due("others stay too", x.paired(2, 2), 1);
    Check.due("two are left", x.many(2), 2);
    Still.due("pair(2, 0, 0), where none is", Still::usual, y -> y.pair(2, 0, 0), 1);
  }

  private static void pairOfNoWord() {
    for (int w : NO_WORD_OF_FOUR) {
      Still.due("pair(" + w + ", 0, 1)", Still::usual, x -> x.pair(w, 0, 1), NineKeys.NUMBER);
      Still.due("pair(0, " + w + ", 1)", Still::usual, x -> x.pair(0, w, 1), NineKeys.NUMBER);
      Still.due("pair(0, " + w + ", 0)", Still::usual, x -> x.pair(0, w, 0), NineKeys.NUMBER);
    }
  }

  private static void pairOfNoCount() {
    for (int count : new int[] {-1, 1000001, MIN, MAX}) {
      Still.due("pair(0, 1, " + count + ")", Still::usual, x -> x.pair(0, 1, count), NineKeys.NUMBER);
      Still.due("pair(2, 0, " + count + ")", Still::usual, x -> x.pair(2, 0, count), NineKeys.NUMBER);
    }
  }

  private static void pairOfGone() {
    Still.due("ahead", Still::usual, x -> x.pair(3, 0, 1), NineKeys.STATE);
    Still.due("behind", Still::usual, x -> x.pair(0, 3, 1), NineKeys.STATE);
    Still.due("both", Still::usual, x -> x.pair(3, 3, 1), NineKeys.STATE);
    Still.due("to nothing", Still::usual, x -> x.pair(3, 0, 0), NineKeys.STATE);
  }

  private static void with150Pairs(NineKeys x) {
    Still.fillWords(x, 13);
    Still.fillPairs(x, 150);
  }

  private static void pairBeyond150() {
    NineKeys x = new NineKeys();
    Still.fillWords(x, 13);
    Still.fillPairs(x, 149);
    Check.due("the 150th", x.pair(12, 12, 1), 1);
    Check.due("as many as may be", x.many(2), 150);
    Still.due("the 151st", y -> with150Pairs(y), y -> y.pair(12, 12, 1), NineKeys.FULL);
    Check.due("one that has a count", x.pair(0, 0, 77), 1);
    Check.due("has another", x.paired(0, 0), 77);
    Check.due("one goes", x.pair(0, 0, 0), 1);
    Check.due("another comes", x.pair(12, 11, 3), 1);
    Check.due("as many again", x.many(2), 150);
    Check.due("no more", x.pair(0, 0, 1), NineKeys.FULL);
  }

  private static void pairOfNothingBeyond150() {
    Still.due("pair(12, 12, 0)", x -> with150Pairs(x), x -> x.pair(12, 12, 0), NineKeys.FULL);
    NineKeys x = new NineKeys();
    Still.fillWords(x, 13);
    Still.fillPairs(x, 149);
    Check.due("with 149", x.pair(12, 12, 0), 1);
    Check.due("still 149", x.many(2), 149);
  }

  // ---- 11 and 12

  private static void wordsLetters() {
    Still.due("cab", Still::usual, x -> x.word(2, 0), 3);
    Still.due("gone", Still::usual, x -> x.word(3, 0), 1);
    Still.due("ten", y -> Check.add(y, "abcdefghij", 1), x -> x.word(0, 0), 10);
  }

  private static void wordsCountAndUse() {
    Still.due("count", Still::usual, x -> x.word(1, 1), 9);
    Still.due("use", Still::usual, x -> x.word(1, 2), 2);
    Still.due("count of a gone one", Still::usual, x -> x.word(3, 1), 4);
    Still.due("use of a gone one", Still::usual, x -> x.word(3, 2), 4);
  }

  private static void wordThereOrNot() {
    Still.due("there", Still::usual, x -> x.word(0, 3), 1);
    Still.due("gone", Still::usual, x -> x.word(3, 3), 0);
    Still.due("let go", x -> Still.fillWords(x, 41), x -> x.word(0, 3), 0);
    Still.due("not let go", x -> Still.fillWords(x, 41), x -> x.word(1, 3), 1);
    Still.due("the new one", x -> Still.fillWords(x, 41), x -> x.word(40, 3), 1);
  }

  private static void wordsRate() {
    // LATEST is 0, and the pair of 0 and 1 has the count 7: by floats 8.4 * 100 is a little less than 840.
    Still.due("behind the latest", Still::usual, x -> x.word(1, 4), 839);
    Still.due("without a pair", Still::usual, x -> x.word(0, 4), 350);
    Still.due("gone", Still::usual, x -> x.word(3, 4), 0);
    Still.due("gone, by counts alone", x -> usualByCounts(x), x -> x.word(3, 4), 0);
    Still.due("there, by counts alone", x -> usualByCounts(x), x -> x.word(1, 4), 900);
  }

  private static void usualByCounts(NineKeys x) {
    Still.usual(x);
    x.share(0);
  }

  private static void wordsLetterI() {
    Still.due("first", Still::usual, x -> x.word(2, 10), 2);
    Still.due("last", Still::usual, x -> x.word(2, 12), 1);
    Still.due("of a gone one", Still::usual, x -> x.word(3, 10), 16);
    Still.due("the tenth", y -> Check.add(y, "abcdefghiz", 1), x -> x.word(0, 19), 25);
  }

  private static void wordOfNone() {
    for (int w : NO_WORD_OF_FOUR) {
      for (int what : new int[] {0, 3, 4, 10}) {
        Still.due("word(" + w + ", " + what + ")", Still::usual, x -> x.word(w, what), -1);
      }
    }
    Still.due("of no letter", Still::usual, x -> x.word(2, 13), -1);
    Still.due("of no letter far off", Still::usual, x -> x.word(2, 19), -1);
    Still.due("of no letter of ten", y -> Check.add(y, "abcdefghiz", 1), x -> x.word(0, 20), -1);
  }

  private static void wordOfAnotherWhat() {
    for (int what : new int[] {-1, 5, 6, 7, 8, 9, 20, MIN, MIN + 9, MIN + 10, MAX}) {
      Still.due("word(0, " + what + ")", Still::usual, x -> x.word(0, what), -1);
      Still.due("word(3, " + what + ") of a gone one", Still::usual, x -> x.word(3, what), -1);
    }
  }

  private static void pairedOfAll() {
    Still.due("told", Still::usual, x -> x.paired(0, 1), 7);
    Still.due("the other way", Still::usual, x -> x.paired(1, 0), 2);
    Still.due("with itself", Still::usual, x -> x.paired(2, 2), 1);
    Still.due("untold", Still::usual, x -> x.paired(0, 2), 0);
    Still.due("with a gone one", Still::usual, x -> x.paired(0, 3), 0);
    Still.due("of a gone one", Still::usual, x -> x.paired(3, 0), 0);
  }

  private static void pairedOfNoWord() {
    for (int w : NO_WORD_OF_FOUR) {
      Still.due("paired(" + w + ", 0)", Still::usual, x -> x.paired(w, 0), -1);
      Still.due("paired(0, " + w + ")", Still::usual, x -> x.paired(0, w), -1);
    }
    Still.due("without words", x -> x.unspell(), x -> x.paired(0, 0), -1);
  }

  // ---- 13 and 14

  private static void findOfOne() {
    Still.due("first", x -> usualSpelt(x, "ad"), x -> x.find(), 0);
    Still.due("last", x -> usualSpelt(x, "cab"), x -> x.find(), 2);
    NineKeys x = new NineKeys();
    Still.usual(x);
    Check.add(x, "q", 1);
    Check.spell(x, "q");
    Check.due("that which came again", x.find(), 4);
  }

  private static void findOfNone() {
    Still.due("no words", x -> Check.spell(x, "ad"), x -> x.find(), -1);
    Still.due("nothing spelt", x -> emptySpelt(x), x -> x.find(), -1);
    Still.due("gone", x -> usualSpelt(x, "q"), x -> x.find(), -1);
    Still.due("a newcomer", x -> usualSpelt(x, "xy"), x -> x.find(), -1);
    Still.due("the start of one", x -> usualSpelt(x, "ca"), x -> x.find(), -1);
    Still.due("one and more", x -> usualSpelt(x, "cabs"), x -> x.find(), -1);
    Still.due("the same keys", x -> usualSpelt(x, "ae"), x -> x.find(), -1);
  }

  private static void manyOfABook() {
    NineKeys x = new NineKeys();
    Still.fillWords(x, 40);
    Check.due("forty came", x.many(0), 40);
    Check.due("forty are there", x.many(1), 40);
    Still.fillWords(x, 80);
    Check.due("eighty came", x.many(0), 80);
    Check.due("forty of them are there", x.many(1), 40);
    Check.due("no pairs", x.many(2), 0);
    Still.fillPairs(x, 150);
    Check.due("as many pairs as may be", x.many(2), 150);
    for (int w = 40; w < 80; w++) {
      x.drop(w);
    }
    Check.due("none is there", x.many(1), 0);
    Check.due("eighty came all the same", x.many(0), 80);
    Check.due("no pairs again", x.many(2), 0);
  }

  private static void manyOfRows() {
    NineKeys x = new NineKeys();
    Check.add(x, "ad", 1);
    Check.spell(x, "abcdefghij");
    Check.due("ten letters", x.many(3), 10);
    Check.press(x, "123456789123");
    Check.due("twelve keys", x.many(4), 12);
    Still.fillText(x, 0);
    Check.due("sixty words", x.many(5), 60);
    x.unspell();
    x.back();
    x.wipe();
    Check.due("no letters", x.many(3), 0);
    Check.due("eleven keys", x.many(4), 11);
    Check.due("no text", x.many(5), 0);
  }

  private static void manyOfTheRest() {
    NineKeys x = new NineKeys();
    for (int n = 0; n < 9; n++) {
      Check.due("newcomers", x.many(6), n);
      Check.third(x, Check.name(n));
    }
    Check.due("eight newcomers", x.many(6), 8);
    Check.due("the clock at first", x.many(7), 0);
    Check.add(x, "ad", 1);
    Check.third(x, "ad");
    Check.due("the clock then", x.many(7), 2);
    Check.due("the share at first", x.many(8), 30);
    x.share(100);
    Check.due("the share then", x.many(8), 100);
  }

  private static void manyOfAnotherWhat() {
    for (int what : new int[] {-1, 9, 10, MIN, MAX}) {
      Still.due("many(" + what + ")", Still::usual, x -> x.many(what), -1);
    }
  }

  // ---- 15 and 16

  private static void shareAtItsEnds() {
    NineKeys x = new NineKeys();
    for (int share : new int[] {0, 100, 1, 99, 99}) {
      Check.due("share(" + share + ")", x.share(share), 1);
      Check.due("then", x.many(8), share);
    }
  }

  private static void shareOfNone() {
    for (int share : new int[] {-1, 101, MIN, MAX}) {
      Still.due("share(" + share + ")", Still::usual, x -> x.share(share), NineKeys.NUMBER);
    }
  }

  private static void priceAtItsEnds() {
    // Of "ad", whose keys are 1 2, these come by each of the slips.
    String[] rows = {"13", "1", "112"};
    for (int slip = 0; slip < 3; slip++) {
      NineKeys x = new NineKeys();
      Check.add(x, "ad", 1);
      Check.press(x, rows[slip]);
      for (int price : new int[] {0, 100000, 1, 99999, 99999}) {
        Check.due("price(" + slip + ", " + price + ")", x.price(slip, price), 1);
        Check.due("then", x.priced(1, 0), price);
      }
      x.price((slip + 1) % 3, 5);
      x.price((slip + 2) % 3, 6);
      Check.due("another slip's price isn't its own", x.priced(1, 0), 99999);
    }
  }

  private static void priceOfNoSlip() {
    for (int slip : new int[] {-1, 3, MIN, MAX}) {
      Still.due("price(" + slip + ", 5)", Still::usual, x -> x.price(slip, 5), NineKeys.NUMBER);
    }
  }

  private static void priceOfNoPrice() {
    for (int slip = 0; slip < 3; slip++) {
      int some = slip;
      for (int price : new int[] {-1, 100001, MIN, MAX}) {
        Still.due("price(" + slip + ", " + price + ")", Still::usual, x -> x.price(some, price), NineKeys.NUMBER);
      }
    }
  }
}

/** The Terms, sentence by sentence. */
final class TermsEdges {
  private static final int MAX = Integer.MAX_VALUE;

  private TermsEdges() {
  }

  static void all(Edges edges) {
    edges.of("What it is");
    edges.test("An object is used for at most 512 calls after it has been made; what later calls answer is free.",
        TermsEdges::as512Calls);
    edges.of("Terms");
    lettersAndWords(edges);
    keysAndOffers(edges);
    presses(edges);
    learning(edges);
    refusals(edges);
  }

  private static void lettersAndWords(Edges edges) {
    edges.test("LETTERS are 0 to 25, KEYS 1 to 9 in rows of three (1 2 3, 4 5 6, 7 8 9).", TermsEdges::firstAndLast);
    edges.test("A DEAL gives each LETTER a KEY; at first LETTER l has KEY 1 + l / 3 (without the rest).",
        TermsEdges::firstDeal);
    edges.test("POSITION of a LETTER: how many LETTERS with its KEY are not above it.", TermsEdges::positions);
    edges.test("KEYS BESIDE one another are next to each other in a row, or in a column.", TermsEdges::noWrapAround);
    edges.test("WORDS are numbered 0 to 79, as they come", TermsEdges::numbersOfWords);
    edges.test("each is a row of 1 to 10 LETTERS", TermsEdges::oneToTenLetters);
    edges.test("no two that are there alike", TermsEdges::noTwoAlike);
    edges.test("with a COUNT (1 to 1,000,000) and a USE (a number)", TermsEdges::countAndUse);
    edges.test("it is THERE or GONE", TermsEdges::thereOrGone);
    edges.test("A row stands AHEAD of another one if it has the lesser LETTER where they are first unlike, or ends there",
        TermsEdges::rowsAhead);
    edges.test("THE CLOCK is a number, 0 at first", TermsEdges::clockAtFirst);
    edges.test("A PAIR of WORDS (the one ahead, the one behind) has a COUNT; 0 if none was told",
        TermsEdges::pairUntold);
    edges.test("150 PAIRS have a COUNT above 0 at most", TermsEdges::pairsAtMost);
    edges.test("THE SPELT is a row of at most 10 LETTERS", TermsEdges::speltAtMost);
    edges.test("THE PRESSED one of at most 12 KEYS", TermsEdges::pressedAtMost);
    edges.test("THE TEXT one of at most 60 WORDS", TermsEdges::textAtMost);
    edges.test("LATEST is the last WORD of THE TEXT if it is THERE; else there is none", TermsEdges::latest);
  }

  private static void keysAndOffers(Edges edges) {
    edges.test("KINDS of writing: 0 TAP, 1 GUESS, 2 SLIDE, 3 SHORTER", TermsEdges::kinds);
    edges.test("THE KEYS of a WORD: its LETTERS' KEYS in order", TermsEdges::keysInOrder);
    edges.test("by SLIDE of those that are alike and follow each other one alone", TermsEdges::slideKeys);
    edges.test("SHARE is 0 to 100 (30 at first)", TermsEdges::shares);
    edges.test("c being the COUNT of the PAIR of LATEST and it (0 without LATEST)", TermsEdges::countBehindLatest);
    edges.test("all by floats, from the left, whole numbers being made floats", TermsEdges::floats);
    edges.test("RATE: WEIGHT * 100 (as a float), its whole part", TermsEdges::wholePart);
    edges.test("MEETS a WORD by GUESS or SLIDE if it is THE KEYS of it by that kind", TermsEdges::meetsByGuessOrSlide);
    edges.test("by SHORTER if THE KEYS (by GUESS) begin with it, and it isn't empty", TermsEdges::meetsByShorter);
    edges.test("each with a PRICE (0 to 100,000; 100,000 at first)", TermsEdges::pricesAtFirst);
    edges.test("0 BESIDE: THE KEYS come from the row by one KEY becoming one that is BESIDE it",
        TermsEdges::slipBeside);
    edges.test("1 LEFT OUT: by a KEY being put in somewhere", TermsEdges::slipLeftOut);
    edges.test("2 TWICE: by one KEY of two that follow each other and are alike being taken away",
        TermsEdges::slipTwice);
    edges.test("(By GUESS and SLIDE alone, not by SHORTER.)", TermsEdges::slipsNotByShorter);
    edges.test("WORDS that are THERE and that it MEETS, at the price 0", TermsEdges::metAtNoPrice);
    edges.test("or by one SLIP whose PRICE is the limit or less", TermsEdges::limits);
    edges.test("(the least, if there are several)", TermsEdges::slippedInSeveralWays);
    edges.test("They stand by RATE less price, the greatest first", TermsEdges::rateLessPrice);
    edges.test("of equals AHEAD first", TermsEdges::equalsAheadFirst);
  }

  private static void presses(Edges edges) {
    edges.test("TAP: the POSITIONS of its LETTERS together", TermsEdges::tapPositions);
    edges.test("one more for each LETTER whose KEY is that of the LETTER ahead of it in the WORD",
        TermsEdges::tapOnTheKey);
    edges.test("and one more (the blank)", TermsEdges::tapBlank);
    edges.test("GUESS, SLIDE: how many THE KEYS are", TermsEdges::guessAndSlide);
    edges.test("how many OFFERS of these KEYS, within the limit -1, stand ahead of it, and one more",
        TermsEdges::offersAhead);
    edges.test("SHORTER: if it is the first OFFER for some of the rows that THE KEYS (by GUESS) begin with",
        TermsEdges::shorterFirst);
    edges.test("how many KEYS the shortest of these has, and one more; else as GUESS", TermsEdges::shorterElse);
    edges.test("(All by SHARE, COUNTS and LATEST as they are.)", TermsEdges::pressesAsTheyAre);
    edges.test("where LATEST is the WORD ahead of it in the row (none ahead of the first)", TermsEdges::spentByPairs);
    edges.test("and one more for each whose kind isn't that of the one ahead of it (of the first: isn't TAP)",
        TermsEdges::spentByChanges);
    edges.test("Nothing is learnt by that.", TermsEdges::spentTeachesNothing);
    edges.test("TAP PRESSES of THE TEXT: the PRESSES of its WORDS (that are THERE) by TAP together",
        TermsEdges::tapsOfThere);
  }

  private static void learning(Edges edges) {
    edges.test("TO LEARN a WORD: its COUNT is one more (1,000,000 at most)", TermsEdges::learnCount);
    edges.test("if there is LATEST, the COUNT of the PAIR of LATEST and it is one more (1,000,000 at most",
        TermsEdges::learnPair);
    edges.test("if it is 0 and there are 150 such PAIRS, it stays)", TermsEdges::learnPairBeyond150);
    edges.test("THE CLOCK is one more, and is its USE", TermsEdges::learnUse);
    edges.test("it comes to the end of THE TEXT", TermsEdges::learnText);
    edges.test("When a WORD comes (by add() or third()), THE CLOCK becomes one more, and that is its USE",
        TermsEdges::comesByTheClock);
    edges.test("(LEARNT behind that, it becomes one more again)", TermsEdges::comesAndIsLearnt);
    edges.test("40 can be THERE: if one comes as a 41st, the one with the least USE", TermsEdges::leastUseGoes);
    edges.test("is GONE ahead of that, with its PAIRS", TermsEdges::goneAheadOfThat);
    edges.test("NEWCOMERS: rows of LETTERS, at most 8, each with a number of times", TermsEdges::newcomersAtMost);
    edges.test("the one that came or counted longest ago goes if there would be a 9th", TermsEdges::ninthNewcomer);
  }

  private static void refusals(Edges edges) {
    edges.test("A call that is refused (answers below 0, where not told otherwise) changes nothing.",
        TermsEdges::refusedInARow);
    edges.test("Of several refusals that a call names the first one named is answered.", TermsEdges::firstRefusal);
    edges.test("The constants: `NUMBER = -1`: A number is none, or none that may be.",
        () -> Check.due("NUMBER", NineKeys.NUMBER, -1));
    edges.test("`FULL = -2`: There are as many as may be.", () -> Check.due("FULL", NineKeys.FULL, -2));
    edges.test("`TWICE = -3`: It is there already.", () -> Check.due("TWICE", NineKeys.TWICE, -3));
    edges.test("`STATE = -4`: It is GONE, empty, or not as it must be.", () -> Check.due("STATE", NineKeys.STATE, -4));
    edges.test("`KIND = -5`: A kind for which that can't be.", () -> Check.due("KIND", NineKeys.KIND, -5));
    edges.test("`NONE = -6`: There is no such OFFER.", () -> Check.due("NONE", NineKeys.NONE, -6));
  }

  private static NineKeys with(String... words) {
    NineKeys x = new NineKeys();
    for (String word : words) {
      Check.add(x, word, 1);
    }
    return x;
  }

  /** Two calls ahead, 127 times four, and two behind: the last one is the 512th. */
  private static void as512Calls() {
    NineKeys x = new NineKeys();
    x.spell(0, -1, 0, 0, 0);
    x.add(1);
    for (int n = 1; n <= 127; n++) {
      Check.due("press", x.press(1), 1);
      Check.due("take", x.take(1, -1, 0), 0);
      Check.due("clock", x.many(7), n + 1);
      Check.due("wipe", x.wipe(), 1);
    }
    Check.due("count", x.word(0, 1), 128);
    Check.due("the 512th call", x.word(0, 2), 128);
  }

  // ---- 1: letters, keys, words

  private static void firstAndLast() {
    NineKeys x = new NineKeys();
    Check.due("the first letter, the last key", x.deal(0, 9), 1);
    Check.due("the last letter, the first key", x.deal(25, 1), 1);
    Check.due("no letter below", x.deal(-1, 1), NineKeys.NUMBER);
    Check.due("no letter above", x.deal(26, 1), NineKeys.NUMBER);
    Check.due("no key below", x.deal(0, 0), NineKeys.NUMBER);
    Check.due("no key above", x.deal(0, 10), NineKeys.NUMBER);
    Check.due("spelt", x.spell(0, 25, -1, 0, 0), 2);
    Check.due("pressed first", x.press(1), 1);
    Check.due("pressed last", x.press(9), 2);
  }

  private static void firstDeal() {
    NineKeys x = new NineKeys();
    String want = "11122233344455566677788899";
    for (int l = 0; l < 26; l++) {
      Check.due("key of " + l, x.letter(l, 0), want.charAt(l) - '0');
    }
  }

  private static void positions() {
    NineKeys x = new NineKeys();
    Check.due("the last key has two", x.letter(25, 1), 2);
    for (int l = 0; l < 26; l++) {
      x.deal(l, 5);
    }
    for (int l = 0; l < 26; l++) {
      Check.due("all on one key: " + l, x.letter(l, 1), l + 1);
    }
    x.deal(0, 4);
    Check.due("alone on its key", x.letter(0, 1), 1);
    Check.due("one less for those above", x.letter(25, 1), 25);
    x.deal(25, 4);
    Check.due("none less for those below", x.letter(24, 1), 24);
    Check.due("behind the other one", x.letter(25, 1), 2);
  }

  private static void noWrapAround() {
    NineKeys x = new NineKeys();
    int[][] not = {{3, 4}, {6, 7}, {1, 3}, {4, 6}, {7, 9}, {1, 7}, {2, 8}, {3, 9}, {1, 9}, {1, 5}, {3, 5},
        {5, 5}, {1, 1}};
    for (int[] n : not) {
      Check.due("beside " + n[0] + " " + n[1], x.beside(n[0], n[1]), false);
      Check.due("beside " + n[1] + " " + n[0], x.beside(n[1], n[0]), false);
    }
    Check.due("in a row", x.beside(2, 3), true);
    Check.due("in a column", x.beside(3, 6), true);
  }

  private static void numbersOfWords() {
    NineKeys x = new NineKeys();
    for (int n = 0; n < 80; n++) {
      Check.due("add", Check.add(x, Check.name(n), 1), n);
      if (n % 5 == 0) {
        x.drop(n);
      }
    }
    Check.due("no number 80", x.word(80, 3), -1);
    Check.due("number 79", x.word(79, 3), 1);
    Check.due("the 81st", Check.add(x, "zzz", 1), NineKeys.FULL);
  }

  private static void oneToTenLetters() {
    NineKeys x = with("q", "abcdefghij");
    Check.due("one", x.word(0, 0), 1);
    Check.due("ten", x.word(1, 0), 10);
    Check.due("none", x.add(1), NineKeys.STATE);
    Check.due("no second letter", x.word(0, 11), -1);
    Check.due("the tenth letter", x.word(1, 19), 9);
    Check.press(x, "1112223334");
    Check.due("ten keys meet", x.offer(1, -1, 0), 1);
    Check.press(x, "6");
    Check.due("one key meets", x.offer(1, -1, 0), 0);
  }

  private static void noTwoAlike() {
    NineKeys x = with("ab", "ba", "abc", "a", "b");
    Check.due("five that are unlike", x.many(1), 5);
    Check.due("twice", Check.add(x, "ab", 1), NineKeys.TWICE);
    Check.due("third() learns the one that is there", Check.third(x, "ab"), 0);
    Check.due("still five", x.many(0), 5);
    x.drop(0);
    Check.due("a gone one may come again", Check.add(x, "ab", 1), 5);
    Check.due("and not twice", Check.add(x, "ab", 1), NineKeys.TWICE);
  }

  private static void countAndUse() {
    NineKeys x = new NineKeys();
    Check.due("the least", Check.add(x, "a", 1), 0);
    Check.due("the most", Check.add(x, "b", 1000000), 1);
    Check.due("count 0", x.word(0, 1), 1);
    Check.due("count 1", x.word(1, 1), 1000000);
    Check.due("use 0", x.word(0, 2), 1);
    Check.due("use 1", x.word(1, 2), 2);
  }

  private static void thereOrGone() {
    NineKeys x = with("ad");
    Check.due("there", x.word(0, 3), 1);
    x.drop(0);
    Check.due("gone", x.word(0, 3), 0);
    Check.add(x, "ad", 1);
    Check.due("gone for good", x.word(0, 3), 0);
    Check.due("another one is there", x.word(1, 3), 1);
  }

  private static void orderIs(NineKeys x, int kind, int limit, int... want) {
    for (int i = 0; i < want.length; i++) {
      Check.due("offer " + i + " by " + kind, x.offer(kind, limit, i), want[i]);
    }
    Check.due("offers by " + kind, x.offers(kind, limit), want.length);
  }

  private static void rowsAhead() {
    NineKeys x = with("b", "ac", "abc", "ab", "aca", "a", "c", "ca");
    Check.press(x, "1");
    orderIs(x, 3, -1, 5, 3, 2, 1, 4, 0, 6, 7);
    orderIs(x, 2, -1, 5, 3, 2, 1, 4, 0, 6, 7);
    orderIs(x, 1, -1, 5, 0, 6);
  }

  private static void clockAtFirst() {
    NineKeys x = new NineKeys();
    Check.due("at first", x.many(7), 0);
    Check.spell(x, "ad");
    Check.press(x, "12");
    Check.due("not by spelling or pressing", x.many(7), 0);
  }

  private static void pairUntold() {
    NineKeys x = with("a", "b");
    for (int v = 0; v < 2; v++) {
      for (int w = 0; w < 2; w++) {
        Check.due("untold " + v + " " + w, x.paired(v, w), 0);
      }
    }
    x.pair(0, 1, 3);
    Check.due("told", x.paired(0, 1), 3);
    Check.due("the other way", x.paired(1, 0), 0);
  }

  private static void pairsAtMost() {
    NineKeys x = new NineKeys();
    Still.fillWords(x, 13);
    Still.fillPairs(x, 150);
    Check.due("no more by pair", x.pair(12, 12, 1), NineKeys.FULL);
    x.put(12);
    Check.third(x, Check.name(12));
    Check.due("no more by learning", x.many(2), 150);
    x.drop(0);
    Check.due("less by drop", x.many(2), 150 - 13 - 11);
    Check.due("room", x.pair(12, 12, 1), 1);
  }

  private static void speltAtMost() {
    NineKeys x = new NineKeys();
    for (int n = 1; n <= 10; n++) {
      Check.due("spell " + n, x.spell(n, -1, 0, 0, 0), n);
    }
    Check.due("no 11th", x.spell(11, -1, 0, 0, 0), NineKeys.FULL);
    Check.due("ten", x.many(3), 10);
    x.add(1);
    for (int i = 0; i < 10; i++) {
      Check.due("letter " + i, x.word(0, 10 + i), i + 1);
    }
  }

  private static void pressedAtMost() {
    NineKeys x = new NineKeys();
    for (int n = 1; n <= 12; n++) {
      Check.due("press " + n, x.press(1 + n % 9), n);
    }
    Check.due("no 13th", x.press(1), NineKeys.FULL);
    Check.due("twelve", x.many(4), 12);
  }

  private static void textAtMost() {
    NineKeys x = with("a", "b");
    for (int n = 1; n <= 60; n++) {
      Check.due("put " + n, x.put(n % 2), n);
    }
    Check.due("no 61st", x.put(0), NineKeys.FULL);
    for (int i = 0; i < 60; i++) {
      Check.due("text " + i, x.text(i), 1 - i % 2);
    }
  }

  private static void latest() {
    NineKeys x = with("a", "b", "c");
    x.share(100);
    for (int v = 0; v < 3; v++) {
      x.pair(v, 2, 10 + v);
    }
    Check.due("no text", x.word(2, 4), 0);
    x.put(0);
    Check.due("the only one", x.word(2, 4), 1000);
    x.put(1);
    Check.due("the last one", x.word(2, 4), 1100);
    x.drop(0);
    Check.due("another one being gone", x.word(2, 4), 1100);
    x.drop(1);
    Check.due("the last one being gone", x.word(2, 4), 0);
    x.put(2);
    Check.due("the last one, a gone one ahead of it", x.word(2, 4), 1200);
    x.wipe();
    Check.due("wiped", x.word(2, 4), 0);
    NineKeys y = with("a", "b", "c");
    y.share(100);
    y.pair(0, 2, 5);
    y.put(0);
    y.put(1);
    y.drop(1);
    Check.due("none, though the one ahead of it is there", y.word(2, 4), 0);
  }

  // ---- 2: kinds, weights, slips, offers

  private static void kinds() {
    NineKeys x = with("aab");
    int[] want = {1 + 1 + 2 + 2 + 1, 4, 2, 2};
    for (int kind = 0; kind < 4; kind++) {
      Check.due("cost by " + kind, x.cost(0, kind), want[kind]);
    }
    Check.press(x, "111");
    Check.due("GUESS", x.offers(1, -1), 1);
    Check.due("SLIDE", x.offers(2, -1), 0);
    Check.due("SHORTER", x.offers(3, -1), 1);
    Check.due("TAP", x.offers(0, -1), NineKeys.KIND);
  }

  private static void keysInOrder() {
    NineKeys x = with("adz");
    for (String row : new String[] {"129", "192", "219", "291", "912", "921"}) {
      Check.press(x, row);
      int want = row.equals("129") ? 1 : 0;
      for (int kind = 1; kind < 4; kind++) {
        Check.due(row + " by " + kind, x.offers(kind, -1), want);
      }
    }
    x.deal(25, 1);
    x.deal(0, 9);
    Check.due("of the deal that holds", x.offers(1, -1), 1);
  }

  private static void slideKeys() {
    String[] words = {"aaaaaaaaaa", "ababababab", "ad", "aadd", "ada", "aaddaa", "addaaddaad", "z"};
    String[] keys = {"1", "1", "12", "12", "121", "121", "121212", "9"};
    for (int n = 0; n < words.length; n++) {
      NineKeys x = with(words[n]);
      Check.press(x, keys[n]);
      Check.due(words[n] + " by " + keys[n], x.offers(2, -1), 1);
      Check.due(words[n] + " costs", x.cost(0, 2), keys[n].length() + 1);
    }
    NineKeys x = with("aad");
    Check.press(x, "112");
    Check.due("the pressed stay as they are", x.offers(2, -1), 0);
  }

  private static void shares() {
    NineKeys x = with("a");
    x.count(0, 8);
    x.pair(0, 0, 3);
    x.put(0);
    Check.due("at first", x.many(8), 30);
    Check.due("rate at first", x.word(0, 4), 650);
    x.share(0);
    Check.due("by the count alone", x.word(0, 4), 800);
    x.share(100);
    Check.due("by the pair alone", x.word(0, 4), 300);
    Check.due("below", x.share(-1), NineKeys.NUMBER);
    Check.due("above", x.share(101), NineKeys.NUMBER);
  }

  private static void countBehindLatest() {
    NineKeys x = with("a", "b");
    x.share(100);
    x.pair(0, 1, 7);
    Check.due("without latest", x.word(1, 4), 0);
    x.put(0);
    Check.due("behind 0", x.word(1, 4), 700);
    Check.due("no pair with itself", x.word(0, 4), 0);
    x.put(1);
    Check.due("behind 1", x.word(1, 4), 0);
    Check.due("not the other way round", x.word(0, 4), 0);
  }

  private static void rateIs(int count, int pair, int share, int want) {
    NineKeys x = with("a", "b");
    x.share(share);
    x.count(1, count);
    x.pair(0, 1, pair);
    x.put(0);
    Check.due("rate of " + count + ", " + pair + " at " + share, x.word(1, 4), want);
  }

  /** Where floats are too short for the sum, the rate isn't what whole numbers would make it. */
  private static void floats() {
    rateIs(999999, 0, 30, 69999928);
    rateIs(999999, 999998, 50, 99999856);
    rateIs(1000000, 1, 30, 70000032);
    rateIs(1000000, 999999, 99, 99999904);
    rateIs(567253, 877093, 70, 78414104);
    rateIs(68712, 635017, 1, 7437504);
    rateIs(1000000, 1000000, 33, 100000000);
    rateIs(1, 1000000, 100, 100000000);
  }

  private static void wholePart() {
    rateIs(3, 0, 30, 209);
    rateIs(6, 0, 30, 419);
    rateIs(9, 7, 30, 839);
    rateIs(5, 0, 30, 350);
    rateIs(1, 0, 99, 1);
    rateIs(1, 0, 100, 0);
    rateIs(1, 1, 0, 100);
    rateIs(1000000, 0, 0, 100000000);
  }

  private static void meetsByGuessOrSlide() {
    NineKeys x = with("aad");
    String[] rows = {"112", "12", "11", "1122", "211", "", "1"};
    for (int n = 0; n < rows.length; n++) {
      Check.press(x, rows[n]);
      Check.due("GUESS " + rows[n], x.offers(1, -1), n == 0 ? 1 : 0);
      Check.due("SLIDE " + rows[n], x.offers(2, -1), n == 1 ? 1 : 0);
    }
  }

  private static void meetsByShorter() {
    NineKeys x = with("aad");
    for (String row : new String[] {"1", "11", "112"}) {
      Check.press(x, row);
      Check.due("begins with " + row, x.offers(3, -1), 1);
    }
    for (String row : new String[] {"", "2", "9", "12", "21", "111", "113", "212", "1122", "1121", "12"}) {
      Check.press(x, row);
      Check.due("doesn't begin with " + row, x.offers(3, MAX), 0);
    }
  }

  private static void pricesAtFirst() {
    NineKeys x = with("ad");
    for (String row : new String[] {"13", "1", "112"}) {
      Check.press(x, row);
      Check.due(row + " at first", x.priced(1, 0), 100000);
      Check.due(row + " within less", x.offers(1, 99999), 0);
      Check.due(row + " within that", x.offers(1, 100000), 1);
    }
  }

  /** Each row of a word's keys (by GUESS as by SLIDE) is an offer by one slip, or none. */
  private static void slipsAre(String word, int slip, String some, String none) {
    NineKeys x = with(word);
    for (int s = 0; s < 3; s++) {
      x.price(s, s == slip ? 10 : 20);
    }
    for (String row : some.split(" ")) {
      Check.press(x, row);
      Check.due(row + " for " + word, x.priced(1, 0), 10);
      Check.due(row + " for " + word + " by SLIDE", x.priced(2, 0), 10);
    }
    for (String row : none.split(" ")) {
      Check.press(x, row);
      Check.due("not " + row + " for " + word, x.priced(1, 0) == 10 || x.priced(2, 0) == 10, false);
    }
  }

  private static void slipBeside() {
    slipsAre("m", 0, "2 4 6 8", "1 3 5 7 9");
    slipsAre("a", 0, "2 4", "1 3 5 6 7 8 9");
    slipsAre("z", 0, "6 8", "1 2 3 4 5 7 9");
    slipsAre("j", 0, "1 5 7", "2 3 4 6 8 9");
    slipsAre("aza", 0, "291 491 161 181 192 194", "191 262 281 151 131 391 199 91 19 1191 1921");
    slipsAre("dmpsvyadgj", 0, "1567891234 2567891235 2567891231 2567894234", "2567891236 1567891235 2567891234");
  }

  private static void slipLeftOut() {
    slipsAre("az", 1, "1 9", "2 5 19 91 191 119");
    slipsAre("amz", 1, "15 19 59", "51 91 95 1 5 9 159 1599 11 55 99 12");
    slipsAre("dmpsvyadgj", 1, "567891234 256789123 256791234", "2567891 25678912 156789123 2567891234 256789132");
    NineKeys x = with("aa", "aad");
    x.price(1, 10);
    Check.press(x, "1");
    Check.due("one of two alike", x.priced(1, 0), 10);
    Check.press(x, "11");
    Check.due("behind two", x.priced(1, 1), 10);
    Check.press(x, "12");
    Check.due("between two", x.priced(1, 1), 10);
    NineKeys y = with("a", "aa", "ad");
    y.price(1, 10);
    Check.due("of an empty row, by GUESS", y.offers(1, 10), 1);
    Check.due("a word of one key", y.priced(1, 0), 10);
    Check.due("of an empty row, by SLIDE", y.offers(2, 10), 2);
    Check.due("a word of one key by SLIDE", y.priced(2, 1), 10);
    Check.due("not of two", y.priced(2, 2), -1);
    Check.due("of an empty row, within less", y.offers(1, 9), 0);
  }

  private static void slipTwice() {
    slipsAre("az", 2, "119 199", "129 19 191 1199 1119 189 1991 919");
    slipsAre("a", 2, "11", "12 21 111 1 22");
    slipsAre("dmpsvyadgj", 2, "22567891234 25567891234 25678912344",
        "25678912343 12567891234 255567891234 225567891234");
    NineKeys x = with("aa");
    x.price(2, 10);
    Check.press(x, "111");
    Check.due("three for two", x.priced(1, 0), 10);
    Check.press(x, "1111");
    Check.due("four for two", x.priced(1, 0), -1);
    Check.press(x, "121");
    Check.due("alike, but not behind each other", x.priced(1, 0), -1);
    Check.press(x, "11");
    Check.due("two for one by SLIDE", x.priced(2, 0), 10);
    Check.press(x, "111");
    Check.due("three for one by SLIDE", x.priced(2, 0), -1);
  }

  private static void slipsNotByShorter() {
    NineKeys x = with("ad");
    for (int slip = 0; slip < 3; slip++) {
      x.price(slip, 0);
    }
    for (String row : new String[] {"13", "2", "112", "122", "42", "3"}) {
      Check.press(x, row);
      Check.due("SHORTER " + row, x.offers(3, MAX), 0);
      Check.due("SHORTER " + row + " priced", x.priced(3, 0), -1);
    }
    for (String row : new String[] {"13", "2", "112", "122", "42"}) {
      Check.press(x, row);
      Check.due("GUESS " + row, x.offers(1, 0), 1);
      Check.due("SLIDE " + row, x.offers(2, 0), 1);
    }
  }

  private static void metAtNoPrice() {
    NineKeys x = with("ad", "be");
    Check.press(x, "12");
    for (int kind = 1; kind < 4; kind++) {
      Check.due("priced by " + kind, x.priced(kind, 0), 0);
      Check.due("within the least limit by " + kind, x.offers(kind, Integer.MIN_VALUE), 2);
    }
    x.drop(0);
    for (int kind = 1; kind < 4; kind++) {
      Check.due("gone by " + kind, x.priced(kind, 0), -1);
      Check.due("without the gone by " + kind, x.offers(kind, MAX), 1);
    }
  }

  private static void limits() {
    NineKeys x = with("ad");
    String[] rows = {"13", "1", "122"};
    for (int slip = 0; slip < 3; slip++) {
      Check.press(x, rows[slip]);
      for (int price : new int[] {0, 1, 50, 99999, 100000}) {
        x.price(slip, price);
        for (int kind = 1; kind < 3; kind++) {
          Check.due(rows[slip] + " below " + price, x.offers(kind, price - 1), 0);
          Check.due(rows[slip] + " at " + price, x.offers(kind, price), 1);
          Check.due(rows[slip] + " above " + price, x.offers(kind, price + 1), 1);
          Check.due(rows[slip] + " at any limit", x.offers(kind, MAX), 1);
          Check.due(rows[slip] + " at none", x.offers(kind, Integer.MIN_VALUE), 0);
        }
      }
    }
  }

  /** By their sizes two slips never lead to the same row, but one slip may lead to it in several ways. */
  private static void slippedInSeveralWays() {
    NineKeys x = with("aaaa");
    x.price(0, 10);
    x.price(1, 20);
    x.price(2, 30);
    Check.press(x, "111");
    Check.due("put in anywhere", x.priced(1, 0), 20);
    Check.due("an offer once", x.offers(1, 100), 1);
    Check.due("and no other one", x.offer(1, 100, 1), -1);
    Check.press(x, "11111");
    Check.due("any one taken away", x.priced(1, 0), 30);
    Check.due("an offer once then", x.offers(1, 100), 1);
    Check.press(x, "1111");
    Check.due("met at no price", x.priced(1, 0), 0);
    Check.due("an offer once, being met", x.offers(1, 100), 1);
  }

  private static void rateLessPrice() {
    NineKeys x = new NineKeys();
    x.share(0);
    Check.add(x, "ad", 1);
    Check.add(x, "ag", 3);
    Check.add(x, "adg", 4);
    Check.add(x, "a", 5);
    Check.press(x, "12");
    x.price(0, 199);
    x.price(1, 301);
    orderIs(x, 1, 301, 1, 0, 2);
    x.price(0, 201);
    x.price(1, 299);
    orderIs(x, 1, 299, 2, 0, 1);
    x.price(0, 100000);
    x.price(1, 99999);
    orderIs(x, 1, 100000, 0, 2, 1);
    Check.press(x, "11");
    x.price(2, 401);
    x.price(0, 100);
    x.price(1, 200);
    orderIs(x, 1, 500, 3, 0);
    Check.press(x, "1");
    orderIs(x, 3, -1, 3, 2, 1, 0);
  }

  private static void equalsAheadFirst() {
    NineKeys x = new NineKeys();
    x.share(0);
    x.price(0, 200);
    x.price(1, 300);
    Check.add(x, "be", 1);
    Check.add(x, "aeg", 4);
    Check.add(x, "bg", 3);
    Check.add(x, "ae", 1);
    Check.add(x, "ad", 1);
    Check.press(x, "12");
    orderIs(x, 1, 300, 4, 3, 1, 0, 2);
    orderIs(x, 1, 200, 4, 3, 0, 2);
    orderIs(x, 1, 199, 4, 3, 0);
    NineKeys y = with("c", "b", "a");
    Check.press(y, "1");
    for (int kind = 1; kind < 4; kind++) {
      orderIs(y, kind, -1, 2, 1, 0);
    }
    // At SHARE 100 and without LATEST all rates are 0, whatever the counts are.
    y.share(100);
    y.count(0, 1000000);
    orderIs(y, 1, -1, 2, 1, 0);
  }

  // ---- 3: presses

  private static void tapIs(String word, int want) {
    Check.due("TAP " + word, with(word).cost(0, 0), want);
  }

  private static void tapPositions() {
    tapIs("a", 1 + 1);
    tapIs("c", 3 + 1);
    tapIs("z", 2 + 1);
    tapIs("adgjmpsvy", 9 + 1);
    tapIs("cfilorux", 24 + 1);
    NineKeys x = with("z");
    for (int l = 0; l < 26; l++) {
      x.deal(l, 7);
    }
    Check.due("all on one key", x.cost(0, 0), 26 + 1);
  }

  private static void tapOnTheKey() {
    tapIs("aa", 2 + 1 + 1);
    tapIs("ab", 3 + 1 + 1);
    tapIs("ba", 3 + 1 + 1);
    tapIs("ada", 3 + 1);
    tapIs("cccccccccc", 30 + 9 + 1);
    tapIs("aadda", 5 + 2 + 1);
    NineKeys x = with("ad");
    x.deal(3, 1);
    Check.due("after deal", x.cost(0, 0), 1 + 4 + 1 + 1);
    x.put(0);
    x.put(0);
    Check.due("not from word to word", x.taps(), 7 + 7);
  }

  private static void tapBlank() {
    tapIs("y", 2);
    NineKeys x = with("y");
    for (int n = 1; n <= 60; n++) {
      x.put(0);
      Check.due("a blank for each of " + n, x.taps(), 2 * n);
    }
  }

  private static void guessAndSlide() {
    String[] words = {"a", "aaaaaaaaaa", "adadadadad", "abcdef", "az"};
    int[] guess = {1, 10, 10, 6, 2};
    int[] slide = {1, 1, 10, 2, 2};
    for (int n = 0; n < words.length; n++) {
      NineKeys x = with(words[n]);
      Check.due("GUESS " + words[n], x.cost(0, 1), guess[n] + 1);
      Check.due("SLIDE " + words[n], x.cost(0, 2), slide[n] + 1);
    }
  }

  private static void offersAhead() {
    NineKeys x = with("a", "b", "c", "aa", "bb");
    int[] guess = {2, 3, 4, 3, 4};
    int[] slide = {2, 4, 6, 3, 5};
    for (int w = 0; w < 5; w++) {
      Check.due("GUESS " + w, x.cost(w, 1), guess[w]);
      Check.due("SLIDE " + w, x.cost(w, 2), slide[w]);
    }
    for (int slip = 0; slip < 3; slip++) {
      x.price(slip, 0);
    }
    x.count(3, 9);
    x.count(4, 8);
    Check.due("those by a slip of no price don't count", x.cost(2, 1), 4);
    Check.due("by SLIDE they are met", x.cost(2, 2), 6);
    x.drop(0);
    Check.due("the gone don't count", x.cost(2, 1), 3);
    NineKeys y = new NineKeys();
    Still.fortyOfOneKey(y);
    Check.due("behind 39 by SLIDE", y.cost(39, 2), 1 + 39 + 1);
    Check.due("behind none by GUESS", y.cost(39, 1), 4 + 1);
  }

  private static void shorterFirst() {
    NineKeys x = with("adg");
    Check.due("alone", x.cost(0, 3), 1 + 1);
    Check.add(x, "aei", 2);
    Check.due("first nowhere", x.cost(0, 3), 3 + 1 + 1);
    Check.due("first at once", x.cost(1, 3), 1 + 1);
    Check.add(x, "aek", 3);
    Check.due("first at its end", x.cost(1, 3), 3 + 1);
    Check.add(x, "aa", 9);
    Check.due("first from the second key on", x.cost(2, 3), 2 + 1);
    Check.due("first at once, the greatest", x.cost(3, 3), 1 + 1);
    Check.due("first at its end still", x.cost(1, 3), 3 + 1);
    Check.add(x, "zzzzzzzzzz", 1);
    Check.due("no other one on its first key", x.cost(4, 3), 1 + 1);
    Check.add(x, "zzzzzzzzzy", 1);
    Check.due("not ahead of one alike", x.cost(4, 3), 10 + 1 + 1);
    Check.due("ahead of one alike", x.cost(5, 3), 1 + 1);
  }

  private static void shorterElse() {
    NineKeys x = with("adg", "adgj");
    Check.due("the shorter one is ahead", x.cost(0, 3), 1 + 1);
    Check.due("behind the end of the shorter one", x.cost(1, 3), 4 + 1);
    x.count(1, 2);
    Check.due("the longer one is ahead everywhere: as GUESS", x.cost(0, 3), 3 + 1);
    Check.due("first at once", x.cost(1, 3), 1 + 1);
    NineKeys y = with("a", "b", "c");
    int[] want = {2, 3, 4};
    for (int w = 0; w < 3; w++) {
      Check.due("of one key " + w, y.cost(w, 3), want[w]);
    }
  }

  private static void pressesAsTheyAre() {
    NineKeys x = with("a", "b");
    for (int kind = 1; kind < 4; kind++) {
      Check.due("by letters", x.cost(1, kind), 3);
    }
    x.count(1, 2);
    for (int kind = 1; kind < 4; kind++) {
      Check.due("by counts", x.cost(1, kind), 2);
    }
    x.pair(0, 0, 9);
    x.put(0);
    for (int kind = 1; kind < 4; kind++) {
      Check.due("by latest", x.cost(1, kind), 3);
    }
    x.share(10);
    for (int kind = 1; kind < 4; kind++) {
      Check.due("by share, 9 + 9 to 18", x.cost(1, kind), 3);
    }
    x.share(9);
    for (int kind = 1; kind < 4; kind++) {
      Check.due("by a lesser share", x.cost(1, kind), 2);
    }
    x.share(100);
    x.wipe();
    for (int kind = 1; kind < 4; kind++) {
      Check.due("without latest all are alike", x.cost(1, kind), 3);
    }
  }

  private static void spentByPairs() {
    NineKeys x = with("b", "c");
    x.count(1, 2);
    x.pair(0, 0, 100);
    x.put(0);
    Check.due("the first has none ahead of it, though it is latest itself", x.fewest(), 3);
    Check.due("by TAP", x.plan(0), 0);
    x.put(0);
    Check.due("the second has the first ahead of it", x.fewest(), 1 + 3 + 2);
    x.put(1);
    Check.due("the other one behind that", x.fewest(), 1 + 3 + 2 + 3);
    x.put(1);
    Check.due("the last has the other one ahead of it", x.fewest(), 1 + 3 + 2 + 3 + 2);
  }

  private static void spentByChanges() {
    NineKeys x = with("y", "c");
    x.put(0);
    Check.due("the first by TAP", x.fewest(), 2);
    x.wipe();
    x.put(1);
    Check.due("the first by GUESS", x.fewest(), 1 + 2);
    x.put(1);
    Check.due("no change more", x.fewest(), 1 + 2 + 2);
    x.wipe();
    x.put(0);
    x.put(1);
    Check.due("a change from TAP, or none", x.fewest(), 1 + 2 + 2);
    NineKeys y = with("aaaa", "adgj");
    y.put(0);
    Check.due("SLIDE", y.fewest(), 1 + 2);
    y.count(1, 2);
    Check.due("SLIDE still", y.fewest(), 1 + 2);
    y.put(1);
    Check.due("SLIDE, then SHORTER", y.fewest(), 1 + 2 + 1 + 2);
    Check.due("SLIDE first", y.plan(0), 2);
    Check.due("SHORTER then", y.plan(1), 3);
  }

  private static void spentTeachesNothing() {
    Still.due("fewest", Still::usual, x -> x.fewest(), 1 + 2 + 1 + 3);
    Still.due("plan 0", Still::usual, x -> x.plan(0), 2);
    Still.due("plan 1", Still::usual, x -> x.plan(1), 0);
  }

  private static void tapsOfThere() {
    NineKeys x = with("a", "ab");
    Check.due("no text", x.taps(), 0);
    x.put(1);
    x.put(0);
    x.put(1);
    Check.due("three", x.taps(), 5 + 2 + 5);
    x.drop(1);
    Check.due("without the gone", x.taps(), 2);
    x.drop(0);
    Check.due("all gone", x.taps(), 0);
  }

  // ---- 4: learning

  private static void learnCount() {
    NineKeys x = with("a");
    for (int n = 2; n <= 4; n++) {
      Check.press(x, "1");
      x.take(1, -1, 0);
      Check.due("by take", x.word(0, 1), n);
    }
    Check.third(x, "a");
    Check.due("by third", x.word(0, 1), 5);
    x.count(0, 999999);
    for (int n = 0; n < 2; n++) {
      Check.third(x, "a");
      Check.due("the most by third", x.word(0, 1), 1000000);
      Check.press(x, "1");
      x.take(1, -1, 0);
      Check.due("the most by take", x.word(0, 1), 1000000);
    }
  }

  private static void learnPair() {
    NineKeys x = with("a", "d");
    Check.third(x, "a");
    Check.due("none without latest", x.many(2), 0);
    Check.third(x, "d");
    Check.due("the first", x.paired(0, 1), 1);
    Check.due("not the other way", x.paired(1, 0), 0);
    Check.third(x, "a");
    Check.due("the other way", x.paired(1, 0), 1);
    Check.press(x, "2");
    x.take(1, -1, 0);
    Check.due("one more", x.paired(0, 1), 2);
    x.pair(1, 1, 999999);
    for (int n = 0; n < 2; n++) {
      Check.third(x, "d");
      Check.due("the most", x.paired(1, 1), 1000000);
    }
    x.drop(1);
    Check.third(x, "a");
    Check.due("none behind a gone one", x.many(2), 0);
    x.wipe();
    Check.third(x, "a");
    Check.due("none at the start of a text", x.many(2), 0);
  }

  private static void learnPairBeyond150() {
    NineKeys x = new NineKeys();
    Still.fillWords(x, 13);
    Still.fillPairs(x, 149);
    x.put(12);
    Check.third(x, Check.name(12));
    Check.due("the 150th", x.paired(12, 12), 1);
    Check.third(x, Check.name(12));
    Check.due("one that has a count", x.paired(12, 12), 2);
    Check.third(x, Check.name(11));
    Check.due("the 151st", x.paired(12, 11), 0);
    Check.due("150", x.many(2), 150);
    Check.due("its count is one more all the same", x.word(11, 1), 2);
    Check.due("its use too", x.word(11, 2), x.many(7));
    Check.due("and it is in the text", x.text(3), 11);
    Check.third(x, Check.name(0));
    Check.due("one that has a count, behind it", x.paired(11, 0), 11 * 13 + 1 + 1);
  }

  private static void learnUse() {
    NineKeys x = with("a", "d");
    Check.third(x, "a");
    Check.due("clock", x.many(7), 3);
    Check.due("use", x.word(0, 2), 3);
    Check.due("the other one's stays", x.word(1, 2), 2);
    Check.press(x, "2");
    x.take(1, -1, 0);
    Check.due("clock then", x.many(7), 4);
    Check.due("use then", x.word(1, 2), 4);
    x.put(0);
    Check.due("not by put", x.word(0, 2), 3);
    x.count(0, 7);
    Check.due("not by count", x.many(7), 4);
  }

  private static void learnText() {
    NineKeys x = with("a", "d");
    x.put(0);
    Check.third(x, "d");
    Check.due("behind the others", x.text(1), 1);
    Check.press(x, "1");
    x.take(1, -1, 0);
    Check.due("and so on", x.text(2), 0);
    Check.due("three", x.many(5), 3);
    while (x.many(5) < 59) {
      x.put(1);
    }
    Check.due("the sixtieth", Check.third(x, "a"), 0);
    Check.due("it is the last", x.text(59), 0);
    Check.due("no 61st", Check.third(x, "a"), NineKeys.FULL);
  }

  private static void comesByTheClock() {
    NineKeys x = new NineKeys();
    for (int n = 1; n <= 45; n++) {
      Check.add(x, Check.name(n), 1);
      Check.due("clock", x.many(7), n);
      Check.due("use", x.word(n - 1, 2), n);
    }
    Check.add(x, Check.name(45), 1);
    Check.due("not by a refused one", x.many(7), 45);
    x.drop(44);
    Check.due("not by drop", x.many(7), 45);
  }

  private static void comesAndIsLearnt() {
    NineKeys x = with("d");
    Check.third(x, "a");
    Check.third(x, "a");
    Check.due("the clock stays for newcomers", x.many(7), 1);
    Check.due("comes", Check.third(x, "a"), 1);
    Check.due("two more", x.many(7), 3);
    Check.due("use", x.word(1, 2), 3);
    Check.due("count", x.word(1, 1), 3);
  }

  private static void leastUseGoes() {
    NineKeys x = new NineKeys();
    Still.fillWords(x, 40);
    Check.due("forty", x.many(1), 40);
    Check.due("none is gone", x.word(0, 3), 1);
    Check.third(x, Check.name(0));
    x.put(1);
    x.count(1, 9);
    Still.fillWords(x, 41);
    Check.due("still forty", x.many(1), 40);
    Check.due("that which was used stays", x.word(0, 3), 1);
    Check.due("put and count are no use", x.word(1, 3), 0);
    x.drop(5);
    Still.fillWords(x, 42);
    Check.due("a free place is taken", x.many(1), 40);
    Check.due("none goes for that", x.word(2, 3), 1);
    Check.third(x, "xy");
    Check.third(x, "xy");
    Check.due("none goes for a newcomer", x.word(2, 3), 1);
    Check.due("one goes at the third time", Check.third(x, "xy"), 42);
    Check.due("the least use", x.word(2, 3), 0);
    Check.due("no other one", x.many(1), 40);
    Check.third(x, "xy");
    Check.due("none goes for a word that is there", x.word(3, 3), 1);
    NineKeys y = new NineKeys();
    Still.fillWords(y, 40);
    for (int n = 38; n >= 0; n--) {
      Check.third(y, Check.name(n));
    }
    Still.fillWords(y, 42);
    Check.due("first the only one that wasn't used", y.word(39, 3), 0);
    Check.due("then the one that was used longest ago", y.word(38, 3), 0);
    Check.due("no other one", y.word(0, 3), 1);
  }

  private static void goneAheadOfThat() {
    NineKeys x = new NineKeys();
    Still.fillWords(x, 40);
    x.pair(0, 5, 3);
    x.pair(5, 0, 3);
    x.pair(0, 0, 3);
    Still.fillPairs(x, 150);
    x.put(5);
    Check.third(x, "xy");
    Check.third(x, "xy");
    Check.due("comes", Check.third(x, "xy"), 40);
    Check.due("the least use is gone", x.word(0, 3), 0);
    Check.due("with its pairs", x.paired(0, 5) + x.paired(5, 0) + x.paired(0, 0), 0);
    Check.due("so that there is room for a new one", x.paired(5, 40), 1);
    Check.due("148", x.many(2), 148);
    NineKeys y = new NineKeys();
    Still.fillWords(y, 40);
    y.put(0);
    Check.third(y, "xy");
    Check.third(y, "xy");
    Check.due("comes when the latest goes", Check.third(y, "xy"), 40);
    Check.due("no pair with that", y.many(2), 0);
    Check.due("the text has both", y.text(0) * 100 + y.text(1), 40);
  }

  private static void newcomerIs(NineKeys x, String row, int want) {
    Check.spell(x, row);
    Check.due("newcomer " + row, x.newcomer(), want);
  }

  private static void newcomersAtMost() {
    NineKeys x = new NineKeys();
    for (int n = 1; n <= 8; n++) {
      Check.third(x, Check.name(n));
      Check.due("newcomers", x.many(6), n);
    }
    Check.third(x, Check.name(9));
    Check.due("no ninth", x.many(6), 8);
    Check.third(x, Check.name(9));
    newcomerIs(x, Check.name(9), 2);
    newcomerIs(x, Check.name(8), 1);
    Check.third(x, "z");
    newcomerIs(x, "z", 1);
    Check.third(x, "zzzzzzzzzz");
    newcomerIs(x, "zzzzzzzzzz", 1);
    newcomerIs(x, "zzzzzzzzz", 0);
  }

  private static void ninthNewcomer() {
    NineKeys x = new NineKeys();
    for (int n = 1; n <= 8; n++) {
      Check.third(x, Check.name(n));
    }
    Check.third(x, Check.name(1));
    newcomerIs(x, Check.name(2), 1);
    Check.third(x, Check.name(9));
    newcomerIs(x, Check.name(1), 2);
    newcomerIs(x, Check.name(2), 0);
    newcomerIs(x, Check.name(3), 1);
    Check.third(x, Check.name(3));
    Check.third(x, Check.name(2));
    newcomerIs(x, Check.name(3), 2);
    newcomerIs(x, Check.name(4), 0);
    newcomerIs(x, Check.name(5), 1);
    Check.due("one comes as a word", Check.third(x, Check.name(1)), 0);
    Check.due("seven", x.many(6), 7);
    Check.third(x, Check.name(10));
    newcomerIs(x, Check.name(5), 1);
    Check.due("eight", x.many(6), 8);
    Check.third(x, Check.name(11));
    newcomerIs(x, Check.name(5), 0);
    // One that counted twice long ago goes all the same, and is new then.
    NineKeys y = new NineKeys();
    Check.third(y, "a");
    Check.third(y, "a");
    for (int n = 1; n <= 8; n++) {
      Check.third(y, Check.name(n));
    }
    newcomerIs(y, "a", 0);
    Check.due("new again", Check.third(y, "a"), 101);
    // None goes for one that comes where another one became a word.
    NineKeys z = new NineKeys();
    for (int n = 1; n <= 8; n++) {
      Check.third(z, Check.name(n));
    }
    Check.third(z, Check.name(4));
    Check.third(z, Check.name(4));
    Check.third(z, Check.name(9));
    for (int n = 1; n <= 9; n++) {
      newcomerIs(z, Check.name(n), n == 4 ? 0 : 1);
    }
  }

  // ---- refusals

  /** All refusals one behind the other on one object, and none on another one. */
  private static void refusedInARow() {
    NineKeys x = new NineKeys();
    NineKeys y = new NineKeys();
    Still.usual(x);
    Still.usual(y);
    int[] answers = {x.deal(26, 1), x.deal(0, 10), x.letter(26, 0), x.letter(0, 2), x.spell(26, -1, 0, 0, 0),
        x.add(0), x.drop(4), x.drop(3), x.count(4, 1), x.count(0, 0), x.count(3, 1), x.pair(4, 0, 1), x.pair(0, 0, -1),
        x.pair(3, 0, 1), x.word(4, 0), x.word(0, 5), x.paired(0, 4), x.find(), x.many(9), x.share(101), x.price(3, 0),
        x.price(0, 100001), x.press(0), x.offers(4, 0), x.offers(0, 0), x.offer(4, 0, 0), x.offer(1, -1, 2),
        x.priced(4, 0), x.priced(0, 0), x.take(4, 0, 0), x.take(0, 0, 0), x.take(1, -1, 2), x.put(4), x.put(3),
        x.text(2), x.cost(4, 0), x.cost(0, 4), x.cost(3, 0), x.plan(2), x.clashing(2)};
    for (int i = 0; i < answers.length; i++) {
      Check.due("refusal " + i + " is below 0", answers[i] < 0, true);
    }
    Still.same("all refusals", x, y);
  }

  private static void full(NineKeys x, String spelt) {
    Still.fillWords(x, 80);
    x.drop(40);
    Still.fillPairs(x, 150);
    Still.fillText(x, 79);
    Check.press(x, "111111111111");
    Check.third(x, "xy");
    Check.third(x, "xy");
    Check.spell(x, spelt);
  }

  /** THE SPELT is a word that is there, or ten letters, or nothing; all else is full, and word 40 is gone. */
  private static void firstRefusal() {
    String known = Check.name(79);
    Still.due("spell: NUMBER, FULL", x -> full(x, "abcdefghij"), x -> x.spell(0, 26, -1, 0, 0), NineKeys.NUMBER);
    Still.due("add: NUMBER, STATE, FULL", x -> full(x, ""), x -> x.add(0), NineKeys.NUMBER);
    Still.due("add: NUMBER, TWICE, FULL", x -> full(x, known), x -> x.add(1000001), NineKeys.NUMBER);
    Still.due("add: NUMBER, FULL", x -> full(x, "xy"), x -> x.add(0), NineKeys.NUMBER);
    Still.due("add: STATE, FULL", x -> full(x, ""), x -> x.add(1), NineKeys.STATE);
    Still.due("add: TWICE, FULL", x -> full(x, known), x -> x.add(1), NineKeys.TWICE);
    Still.due("count: NUMBER, STATE", x -> full(x, ""), x -> x.count(40, 0), NineKeys.NUMBER);
    Still.due("pair: NUMBER, STATE", x -> full(x, ""), x -> x.pair(40, 80, 1), NineKeys.NUMBER);
    Still.due("pair: NUMBER (count), STATE", x -> full(x, ""), x -> x.pair(40, 79, -1), NineKeys.NUMBER);
    Still.due("pair: NUMBER, FULL", x -> full(x, ""), x -> x.pair(41, 42, 1000001), NineKeys.NUMBER);
    Still.due("pair: STATE, FULL", x -> full(x, ""), x -> x.pair(40, 41, 1), NineKeys.STATE);
    Still.due("pair: STATE (behind), FULL", x -> full(x, ""), x -> x.pair(41, 40, 1), NineKeys.STATE);
    Still.due("press: NUMBER, FULL", x -> full(x, ""), x -> x.press(10), NineKeys.NUMBER);
    Still.due("priced: NUMBER, KIND", x -> full(x, ""), x -> x.priced(0, 80), -2);
    Still.due("take: NUMBER, NONE, FULL", x -> full(x, ""), x -> x.take(4, 0, 0), NineKeys.NUMBER);
    Still.due("take: KIND, NONE, FULL", x -> full(x, ""), x -> x.take(0, 0, 0), NineKeys.KIND);
    Still.due("take: NONE, FULL", x -> full(x, ""), x -> x.take(1, 0, 0), NineKeys.NONE);
    Still.due("third: STATE, FULL", x -> full(x, ""), x -> x.third(), NineKeys.STATE);
    Still.due("third: FULL and FULL", x -> full(x, "xy"), x -> x.third(), NineKeys.FULL);
    Still.due("put: NUMBER, FULL", x -> full(x, ""), x -> x.put(80), NineKeys.NUMBER);
    Still.due("put: STATE, FULL", x -> full(x, ""), x -> x.put(40), NineKeys.STATE);
    Still.due("cost: NUMBER, STATE", x -> full(x, ""), x -> x.cost(40, 4), NineKeys.NUMBER);
  }
}

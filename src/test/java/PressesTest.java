/** Promises 28 to 36: presses. */
public final class PressesTest {
  public static void main(String[] args) {
    cost();
    costByLatest();
    costByShorter();
    fewest();
    fewestByPairs();
    fewestWithAGoneWord();
    plan();
    planAtTheMost();
    taps();
    best();
    bestOfMany();
    swap();
    swapOfEquals();
    swapOfMany();
    clash();
    clashAfterDeal();
    Check.finish();
  }

  private static void costs(NineKeys x, int w, int tap, int guess, int slide, int shorter) {
    Check.due("tap " + w, x.cost(w, 0), tap);
    Check.due("guess " + w, x.cost(w, 1), guess);
    Check.due("slide " + w, x.cost(w, 2), slide);
    Check.due("shorter " + w, x.cost(w, 3), shorter);
  }

  private static void cost() {
    NineKeys x = new NineKeys();
    Check.due("no word", x.cost(0, 0), NineKeys.NUMBER);
    Check.add(x, "cab", 5);
    Check.due("kind 4", x.cost(0, 4), NineKeys.NUMBER);
    Check.due("kind -1", x.cost(0, -1), NineKeys.NUMBER);
    Check.due("word -1", x.cost(-1, 0), NineKeys.NUMBER);
    costs(x, 0, 3 + 1 + 2 + 2 + 1, 4, 2, 2);
    Check.add(x, "bad", 5);
    costs(x, 1, 2 + 1 + 1 + 1 + 1, 4, 3, 2);
    costs(x, 0, 9, 4, 2, 4);
    x.drop(1);
    costs(x, 0, 9, 4, 2, 2);
    Check.due("gone", x.cost(1, 0), NineKeys.STATE);
    Check.due("number ahead of gone", x.cost(1, 4), NineKeys.NUMBER);
    x.price(0, 0);
    x.price(1, 0);
    x.price(2, 0);
    Check.add(x, "aad", 9);
    costs(x, 0, 9, 4, 2, 4);
    x.deal(0, 7);
    Check.due("tap after deal", x.cost(0, 0), 2 + 1 + 1 + 1);
  }

  private static void costByLatest() {
    NineKeys x = new NineKeys();
    Check.add(x, "a", 5);
    Check.add(x, "b", 6);
    x.pair(0, 0, 100);
    costs(x, 0, 2, 3, 3, 3);
    costs(x, 1, 3, 2, 2, 2);
    x.put(0);
    costs(x, 0, 2, 2, 2, 2);
    costs(x, 1, 3, 3, 3, 3);
    x.share(0);
    costs(x, 0, 2, 3, 3, 3);
  }

  private static void costByShorter() {
    NineKeys x = new NineKeys();
    Check.add(x, "adgj", 5);
    Check.add(x, "adg", 6);
    Check.add(x, "ad", 4);
    Check.add(x, "adgjm", 3);
    Check.add(x, "behk", 5);
    Check.due("first of all", x.cost(1, 3), 2);
    Check.due("first where the better one ends", x.cost(0, 3), 5);
    Check.due("never first, as by guess", x.cost(2, 3), 3);
    Check.due("first at its end alone", x.cost(3, 3), 6);
    Check.due("behind one alike", x.cost(4, 3), 6);
    Check.due("behind one alike, by guess", x.cost(4, 1), 6);
  }

  private static void fewest() {
    NineKeys x = new NineKeys();
    Check.due("empty", x.fewest(), NineKeys.STATE);
    Check.add(x, "a", 5);
    Check.add(x, "b", 9);
    x.put(0);
    Check.due("tap alone", x.fewest(), 2);
    x.put(0);
    Check.due("tap twice", x.fewest(), 4);
    x.pair(0, 1, 1);
    x.put(1);
    Check.due("change for the last, or not", x.fewest(), 7);
    x.put(1);
    Check.due("change for two", x.fewest(), 9);
    Check.due("nothing is learnt", x.word(0, 1), 5);
    Check.due("clock", x.many(7), 2);
    x.drop(0);
    Check.due("one is gone", x.fewest(), NineKeys.STATE);
  }

  private static void fewestByPairs() {
    NineKeys x = new NineKeys();
    Check.add(x, "c", 5);
    Check.add(x, "b", 6);
    x.pair(0, 0, 100);
    x.put(0);
    x.put(0);
    x.put(1);
    Check.due("each behind the one ahead of it", x.fewest(), 1 + 3 + 2 + 3);
    for (int i = 0; i < 3; i++) {
      Check.due("kind " + i, x.plan(i), 1);
    }
    x.share(0);
    Check.due("without pairs", x.fewest(), 1 + 3 + 3 + 2);
  }

  private static void fewestWithAGoneWord() {
    NineKeys x = new NineKeys();
    for (int n = 0; n < 3; n++) {
      Check.add(x, Check.name(n), 1);
      x.put(n);
    }
    for (int n = 0; n < 3; n++) {
      Check.due("all are there", x.fewest() > 0, true);
      x.drop(n);
      Check.due("one is gone", x.fewest(), NineKeys.STATE);
      Check.due("no plan", x.plan(0), -1);
      x.wipe();
      Check.add(x, Check.name(n), 1);
      for (int w = 0; w < 3; w++) {
        x.put(w <= n ? 3 + w : w);
      }
    }
  }

  private static void plan() {
    NineKeys x = new NineKeys();
    Check.due("empty", x.plan(0), -1);
    Check.add(x, "a", 5);
    Check.add(x, "b", 9);
    x.put(0);
    x.put(0);
    x.put(1);
    int[] want = {0, 0, 0, -1};
    for (int i = 0; i < want.length; i++) {
      Check.due("kind " + i, x.plan(i), want[i]);
    }
    x.put(1);
    int[] then = {0, 0, 1, 1, -1};
    for (int i = 0; i < then.length; i++) {
      Check.due("kind then " + i, x.plan(i), then[i]);
    }
    Check.due("-1", x.plan(-1), -1);
    Check.due("far", x.plan(Integer.MAX_VALUE), -1);
    x.drop(0);
    Check.due("gone", x.plan(0), -1);
  }

  private static void planAtTheMost() {
    NineKeys x = new NineKeys();
    Check.add(x, "zzzzzzzzzz", 5);
    for (int n = 0; n < 60; n++) {
      x.put(0);
    }
    Check.due("sixty by slide", x.fewest(), 121);
    for (int i = 0; i < 60; i++) {
      Check.due("kind " + i, x.plan(i), 2);
    }
    Check.due("kind 60", x.plan(60), -1);
  }

  private static void taps() {
    NineKeys x = new NineKeys();
    Check.due("empty", x.taps(), 0);
    Check.add(x, "cab", 5);
    Check.add(x, "z", 5);
    x.put(0);
    x.put(1);
    x.put(0);
    Check.due("three", x.taps(), 9 + 3 + 9);
    x.drop(0);
    Check.due("without the gone", x.taps(), 3);
    x.deal(24, 1);
    Check.due("after deal", x.taps(), 2);
  }

  private static void keysAre(NineKeys x, String want) {
    for (int l = 0; l < 26; l++) {
      Check.due("key of " + l, x.letter(l, 0), want.charAt(l) - '0');
    }
  }

  private static void best() {
    NineKeys x = new NineKeys();
    Check.due("no text", x.best(), 0);
    keysAre(x, "12345678999999999999999999");
    Check.add(x, "zzz", 5);
    x.put(0);
    Check.due("z alone at the end", x.best(), 6);
    keysAre(x, "12345678888888888888888889");
    x.deal(3, 9);
    Check.add(x, "m", 5);
    x.put(1);
    Check.due("m first of its key", x.best(), 8);
    keysAre(x, "12345677777788888888888889");
    Check.due("taps are those", x.taps(), 8);
    x.drop(0);
    Check.due("without the gone", x.best(), 2);
    keysAre(x, "12345678888899999999999999");
  }

  private static void bestOfMany() {
    NineKeys x = new NineKeys();
    String letters = "abcdefghijklmnopqrstuvwxyz";
    Check.add(x, letters.substring(0, 10), 1);
    Check.add(x, letters.substring(10, 20), 1);
    Check.add(x, letters.substring(20), 1);
    for (int n = 0; n < 3; n++) {
      x.put(n);
    }
    // Eight stretches of three and one of two are least, if j k and t u, which don't follow each other
    // in a word, share a key: so the shorter stretch can't stand ahead of u.
    Check.due("at first", x.taps(), 8 * 6 + 3 + 17 - 2 + 3);
    Check.due("best", x.best(), 69);
    keysAre(x, "11122233344455566677788999");
  }

  private static void swap() {
    NineKeys x = new NineKeys();
    Check.due("no text", x.swap(), 0);
    Check.add(x, "cc", 5);
    x.put(0);
    Check.due("c has to come first", x.taps(), 3 + 3 + 1 + 1);
    Check.due("swapped", x.swap(), 4);
    keysAre(x, swapped(new NineKeys(), 2, 3));
    Check.due("then", x.taps(), 4);
  }

  /** The keys of a deal after the keys of two letters were changed. */
  private static String swapped(NineKeys x, int a, int b) {
    int key = x.letter(a, 0);
    x.deal(a, x.letter(b, 0));
    x.deal(b, key);
    StringBuilder keys = new StringBuilder();
    for (int l = 0; l < 26; l++) {
      keys.append(x.letter(l, 0));
    }
    return keys.toString();
  }

  private static void swapOfEquals() {
    NineKeys x = new NineKeys();
    Check.add(x, "a", 5);
    x.put(0);
    Check.due("nothing to win", x.swap(), 0);
    keysAre(x, "11122233344455566677788899");
    x.drop(0);
    Check.add(x, "b", 5);
    x.put(1);
    Check.due("one to win", x.swap(), 1);
    keysAre(x, swapped(new NineKeys(), 0, 3));
    Check.due("nothing more", x.swap(), 0);
    keysAre(x, swapped(new NineKeys(), 0, 3));
  }

  private static void swapOfMany() {
    swapsByTrying("abcdefghij", "klmnopqrst", "uvwxyz", "z");
    swapsByTrying("ab", "ac", "cab");
    swapsByTrying("zy", "zz", "ye");
    swapsByTrying("the", "cat", "sat", "on", "the", "mat", "with", "a", "rat");
    NineKeys x = new NineKeys();
    x.deal(0, 9);
    x.deal(2, 5);
    Check.add(x, "z", 1);
    x.put(0);
    Check.due("z comes to be alone", x.swap(), 2);
    Check.due("its key", x.letter(25, 0), 1);
    Check.due("the other key", x.letter(1, 0), 9);
  }

  /** Swaps until nothing is won any more, each time beside all changes of two keys tried by deal and taps. */
  private static void swapsByTrying(String... words) {
    NineKeys x = new NineKeys();
    NineKeys y = new NineKeys();
    for (String word : words) {
      int w = Math.max(Check.add(x, word, 1), x.find());
      Check.add(y, word, 1);
      x.put(w);
      y.put(w);
    }
    int won = 1;
    for (int n = 0; n < 12 && won > 0; n++) {
      won = swapByTrying(y);
      Check.due(words[0] + ": swap " + n, x.swap(), won);
      for (int l = 0; l < 26; l++) {
        Check.due(words[0] + ": key of " + l, x.letter(l, 0), y.letter(l, 0));
      }
    }
    Check.due(words[0] + ": an end", won, 0);
  }

  private static int swapByTrying(NineKeys y) {
    int before = y.taps();
    int least = before;
    int bestA = 0;
    int bestB = 0;
    for (int a = 0; a < 26; a++) {
      for (int b = a + 1; b < 26; b++) {
        swapped(y, a, b);
        if (y.taps() < least) {
          least = y.taps();
          bestA = a;
          bestB = b;
        }
        swapped(y, a, b);
      }
    }
    swapped(y, bestA, bestB);
    return before - least;
  }

  private static void clashAfterDeal() {
    for (int n = 0; n < 3; n++) {
      NineKeys x = new NineKeys();
      Check.add(x, "a", 1);
      Check.add(x, "d", 1);
      Check.due("no pairs", x.clashes(), 0);
      x.deal(3, 1);
      if (n == 0) {
        Check.due("one pair", x.clashes(), 1);
      } else if (n == 1) {
        Check.due("two", x.clash(), 2);
      } else {
        Check.due("the second", x.clashing(1), 1);
      }
    }
  }

  private static void clash() {
    NineKeys x = new NineKeys();
    Check.due("most without words", x.clash(), 0);
    Check.due("none without words", x.clashing(0), -1);
    Check.due("pairs without words", x.clashes(), 0);
    Check.add(x, "z", 1);
    Check.due("one", x.clash(), 1);
    Check.due("that one", x.clashing(0), 0);
    Check.due("no more", x.clashing(1), -1);
    Check.due("no pairs", x.clashes(), 0);
    Check.add(x, "ad", 1);
    Check.add(x, "gj", 1);
    Check.add(x, "hk", 1);
    Check.add(x, "be", 1);
    Check.due("two", x.clash(), 2);
    Check.due("of the least word", x.clashing(0), 1);
    Check.due("and the other", x.clashing(1), 4);
    Check.due("two pairs", x.clashes(), 2);
    Check.add(x, "il", 1);
    Check.due("three", x.clash(), 3);
    int[] want = {2, 3, 5, -1};
    for (int i = 0; i < want.length; i++) {
      Check.due("clashing " + i, x.clashing(i), want[i]);
    }
    Check.due("clashing -1", x.clashing(-1), -1);
    Check.due("clashing far", x.clashing(Integer.MAX_VALUE), -1);
    Check.due("four pairs", x.clashes(), 1 + 3);
    x.drop(2);
    Check.due("two again", x.clash(), 2);
    Check.due("least word again", x.clashing(0), 1);
    Check.due("two pairs again", x.clashes(), 2);
    x.deal(1, 9);
    Check.due("least after deal", x.clashing(0), 3);
    Check.due("one pair after deal", x.clashes(), 1);
    Check.add(x, "aad", 1);
    Check.due("not by slide", x.clashes(), 1);
  }
}

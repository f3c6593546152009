/** Promises 5 to 16: words. */
public final class WordsTest {
  public static void main(String[] args) {
    spell();
    unspell();
    add();
    addBeyondForty();
    drop();
    count();
    pair();
    pairsFull();
    word();
    rate();
    paired();
    find();
    many();
    share();
    price();
    Check.finish();
  }

  private static void spell() {
    NineKeys x = new NineKeys();
    Check.due("none", x.spell(-1, 99, 99, 99, 99), 0);
    Check.due("one", x.spell(25, -1, 26, -7, 99), 1);
    Check.due("wrong first", x.spell(26, -1, 0, 0, 0), NineKeys.NUMBER);
    Check.due("wrong last", x.spell(0, 1, 2, 3, -2), NineKeys.NUMBER);
    Check.due("nothing came", x.many(3), 1);
    Check.due("five", x.spell(0, 1, 2, 3, 4), 6);
    Check.due("too many", x.spell(0, 1, 2, 3, 4), NineKeys.FULL);
    Check.due("wrong ahead of too many", x.spell(0, 1, 2, 3, 26), NineKeys.NUMBER);
    Check.due("four", x.spell(5, 6, 7, 8, -1), 10);
    Check.due("none at ten", x.spell(-1, 0, 0, 0, 0), 10);
    Check.due("one at ten", x.spell(0, -1, 0, 0, 0), NineKeys.FULL);
    Check.due("add", x.add(1), 0);
    int[] want = {25, 0, 1, 2, 3, 4, 5, 6, 7, 8};
    for (int i = 0; i < 10; i++) {
      Check.due("letter " + i, x.word(0, 10 + i), want[i]);
    }
  }

  private static void unspell() {
    NineKeys x = new NineKeys();
    Check.due("empty", x.unspell(), 0);
    x.spell(1, 2, 3, -1, 0);
    Check.due("three", x.unspell(), 3);
    Check.due("empty then", x.unspell(), 0);
    Check.due("many", x.many(3), 0);
  }

  private static void add() {
    NineKeys x = new NineKeys();
    Check.due("count ahead of empty", x.add(0), NineKeys.NUMBER);
    Check.due("empty", x.add(1), NineKeys.STATE);
    Check.spell(x, "ab");
    Check.due("count 0", x.add(0), NineKeys.NUMBER);
    Check.due("count too much", x.add(1000001), NineKeys.NUMBER);
    Check.due("spelt stays", x.many(3), 2);
    Check.due("added", x.add(1000000), 0);
    Check.due("spelt is empty", x.many(3), 0);
    Check.due("use", x.word(0, 2), 1);
    Check.due("clock", x.many(7), 1);
    Check.due("twice", Check.add(x, "ab", 1), NineKeys.TWICE);
    Check.due("count ahead of twice", x.add(0), NineKeys.NUMBER);
    Check.due("spelt stays when twice", x.many(3), 2);
    Check.due("longer", Check.add(x, "abab", 1), 1);
    Check.due("shorter", Check.add(x, "a", 1), 2);
    x.drop(0);
    Check.due("again when gone", Check.add(x, "ab", 7), 3);
    Check.due("gone stays gone", x.word(0, 3), 0);
    Check.due("text stays", x.many(5), 0);
    for (int n = 4; n < 80; n++) {
      Check.due("word " + n, Check.add(x, Check.name(n), 1), n);
    }
    Check.due("twice ahead of full", Check.add(x, Check.name(79), 1), NineKeys.TWICE);
    Check.due("full", Check.add(x, "zzz", 1), NineKeys.FULL);
    Check.due("spelt stays when full", x.many(3), 3);
    Check.due("clock when full", x.many(7), 80);
    Check.due("came", x.many(0), 80);
    Check.due("there", x.many(1), 40);
  }

  private static void addBeyondForty() {
    NineKeys x = new NineKeys();
    for (int n = 0; n < 40; n++) {
      Check.add(x, Check.name(n), 1);
    }
    Check.due("forty", x.many(1), 40);
    Check.due("0 is used", Check.third(x, Check.name(0)), 0);
    x.pair(1, 2, 5);
    x.pair(3, 1, 6);
    x.pair(2, 3, 7);
    Check.due("41st", Check.add(x, "zzz", 1), 40);
    Check.due("there", x.many(1), 40);
    Check.due("0 stays", x.word(0, 3), 1);
    Check.due("1 is gone", x.word(1, 3), 0);
    Check.due("its pairs are gone", x.many(2), 1);
    Check.due("another pair stays", x.paired(2, 3), 7);
    Check.due("use of the new one", x.word(40, 2), 42);
    x.drop(39);
    Check.due("another in its place", Check.add(x, "zzy", 1), 41);
    Check.due("2 stays", x.word(2, 3), 1);
    Check.due("42nd", Check.add(x, "zzx", 1), 42);
    Check.due("2 is gone", x.word(2, 3), 0);
  }

  private static void drop() {
    NineKeys x = new NineKeys();
    Check.due("none", x.drop(0), NineKeys.NUMBER);
    Check.add(x, "ab", 4);
    Check.add(x, "cd", 4);
    x.pair(0, 0, 1);
    x.pair(0, 1, 2);
    x.pair(1, 0, 3);
    x.pair(1, 1, 4);
    Check.due("negative", x.drop(-1), NineKeys.NUMBER);
    Check.due("beyond", x.drop(2), NineKeys.NUMBER);
    Check.due("dropped", x.drop(0), 1);
    Check.due("already", x.drop(0), NineKeys.STATE);
    Check.due("there", x.many(1), 1);
    Check.due("came", x.many(0), 2);
    Check.due("pairs", x.many(2), 1);
    Check.due("0 0", x.paired(0, 0), 0);
    Check.due("0 1", x.paired(0, 1), 0);
    Check.due("1 0", x.paired(1, 0), 0);
    Check.due("1 1", x.paired(1, 1), 4);
    Check.due("clock", x.many(7), 2);
  }

  private static void count() {
    NineKeys x = new NineKeys();
    Check.due("none", x.count(0, 1), NineKeys.NUMBER);
    Check.add(x, "ab", 4);
    Check.due("0", x.count(0, 0), NineKeys.NUMBER);
    Check.due("too much", x.count(0, 1000001), NineKeys.NUMBER);
    Check.due("unchanged", x.word(0, 1), 4);
    Check.due("most", x.count(0, 1000000), 1);
    Check.due("changed", x.word(0, 1), 1000000);
    Check.due("least", x.count(0, 1), 1);
    Check.due("use stays", x.word(0, 2), 1);
    x.drop(0);
    Check.due("gone, and number first", x.count(0, 0), NineKeys.NUMBER);
    Check.due("gone", x.count(0, 5), NineKeys.STATE);
    Check.due("gone keeps its count", x.word(0, 1), 1);
  }

  private static void pair() {
    NineKeys x = new NineKeys();
    Check.add(x, "ab", 4);
    Check.add(x, "cd", 4);
    Check.due("no ahead", x.pair(2, 0, 1), NineKeys.NUMBER);
    Check.due("no behind", x.pair(0, -1, 1), NineKeys.NUMBER);
    Check.due("below 0", x.pair(0, 1, -1), NineKeys.NUMBER);
    Check.due("too much", x.pair(0, 1, 1000001), NineKeys.NUMBER);
    Check.due("none of 0", x.pair(0, 1, 0), 1);
    Check.due("no pair", x.many(2), 0);
    Check.due("most", x.pair(0, 1, 1000000), 1);
    Check.due("one way", x.paired(0, 1), 1000000);
    Check.due("other way", x.paired(1, 0), 0);
    Check.due("another", x.pair(0, 1, 3), 1);
    Check.due("one pair", x.many(2), 1);
    Check.due("none any more", x.pair(0, 1, 0), 1);
    Check.due("no pair any more", x.many(2), 0);
    x.drop(1);
    Check.due("behind gone", x.pair(0, 1, 1), NineKeys.STATE);
    Check.due("ahead gone", x.pair(1, 0, 1), NineKeys.STATE);
    Check.due("number first", x.pair(1, 0, -1), NineKeys.NUMBER);
  }

  private static void pairsFull() {
    NineKeys x = new NineKeys();
    for (int n = 0; n < 13; n++) {
      Check.add(x, Check.name(n), 1);
    }
    for (int n = 0; n < 150; n++) {
      Check.due("pair " + n, x.pair(n / 13, n % 13, 1 + n), 1);
    }
    Check.due("150", x.many(2), 150);
    Check.due("full", x.pair(12, 12, 1), NineKeys.FULL);
    Check.due("full for 0 too", x.pair(12, 12, 0), NineKeys.FULL);
    Check.due("known one", x.pair(0, 0, 9), 1);
    x.put(12);
    Check.due("learnt without its pair", Check.third(x, Check.name(12)), 12);
    Check.due("not paired", x.paired(12, 12), 0);
    Check.due("learnt all the same", x.word(12, 1), 2);
    x.wipe();
    x.put(0);
    Check.due("learnt with its pair", Check.third(x, Check.name(0)), 0);
    Check.due("paired", x.paired(0, 0), 10);
    Check.due("known one to 0", x.pair(0, 0, 0), 1);
    Check.due("149", x.many(2), 149);
    Check.due("room", x.pair(12, 12, 8), 1);
    Check.due("others stay", x.paired(11, 6), 150);
    x.drop(0);
    Check.due("without those of 0", x.many(2), 150 - 12 - 11);
  }

  private static void word() {
    NineKeys x = new NineKeys();
    Check.add(x, "czb", 44);
    int[] want = {3, 44, 1, 1, 3080};
    for (int what = 0; what < 5; what++) {
      Check.due("what " + what, x.word(0, what), want[what]);
    }
    Check.due("letter 0", x.word(0, 10), 2);
    Check.due("letter 1", x.word(0, 11), 25);
    Check.due("letter 2", x.word(0, 12), 1);
    int[] wrong = {-1, 5, 9, 13, 20, Integer.MIN_VALUE, Integer.MAX_VALUE};
    for (int what : wrong) {
      Check.due("what " + what, x.word(0, what), -1);
    }
    Check.due("none", x.word(1, 0), -1);
    Check.due("none below", x.word(-1, 0), -1);
    x.drop(0);
    int[] gone = {3, 44, 1, 0, 0};
    for (int what = 0; what < 5; what++) {
      Check.due("gone: what " + what, x.word(0, what), gone[what]);
    }
    Check.due("gone: letter 1", x.word(0, 11), 25);
  }

  private static void rate() {
    NineKeys x = new NineKeys();
    Check.add(x, "a", 999999);
    Check.add(x, "b", 16777);
    x.pair(0, 1, 333333);
    for (int share = 0; share <= 100; share++) {
      x.share(share);
      x.wipe();
      Check.due("rate without latest at " + share, x.word(1, 4), rate(16777, 0, share));
      x.put(0);
      Check.due("rate with latest at " + share, x.word(1, 4), rate(16777, 333333, share));
      Check.due("rate of no pair at " + share, x.word(0, 4), rate(999999, 0, share));
    }
    x.drop(0);
    x.share(100);
    Check.due("no latest when it is gone", x.word(1, 4), 0);
    x.put(1);
    x.pair(1, 1, 1);
    Check.due("latest is the last", x.word(1, 4), 100);
  }

  /** Each step is a float of its own, so that no step can be joined with another one. */
  private static int rate(int count, int pair, int share) {
    float left = (float) count * (float) (100 - share);
    float right = (float) pair * (float) share;
    float sum = left + right;
    float weight = sum / 100f;
    float hundred = weight * 100f;
    return (int) hundred;
  }

  private static void paired() {
    NineKeys x = new NineKeys();
    Check.due("none", x.paired(0, 0), -1);
    Check.add(x, "a", 1);
    Check.due("no behind", x.paired(0, 1), -1);
    Check.due("no ahead", x.paired(-1, 0), -1);
    Check.due("untold", x.paired(0, 0), 0);
    x.pair(0, 0, 17);
    Check.due("told", x.paired(0, 0), 17);
    Check.add(x, "b", 1);
    x.pair(0, 1, 18);
    x.pair(1, 0, 19);
    x.pair(1, 1, 20);
    x.pair(1, 0, 21);
    x.pair(0, 1, 0);
    Check.due("0 0", x.paired(0, 0), 17);
    Check.due("0 1", x.paired(0, 1), 0);
    Check.due("1 0", x.paired(1, 0), 21);
    Check.due("1 1", x.paired(1, 1), 20);
    x.drop(0);
    Check.due("gone", x.paired(0, 0), 0);
  }

  private static void find() {
    NineKeys x = new NineKeys();
    Check.due("empty", x.find(), -1);
    Check.add(x, "ab", 1);
    Check.add(x, "abc", 1);
    Check.due("empty with words", x.find(), -1);
    Check.spell(x, "a");
    Check.due("start", x.find(), -1);
    Check.spell(x, "ab");
    Check.due("ab", x.find(), 0);
    Check.spell(x, "abc");
    Check.due("abc", x.find(), 1);
    Check.due("spelt stays", x.many(3), 3);
    x.drop(1);
    Check.due("gone", x.find(), -1);
    Check.due("again", x.add(1), 2);
    Check.spell(x, "abc");
    Check.due("the one that is there", x.find(), 2);
  }

  private static void many() {
    NineKeys x = new NineKeys();
    Check.add(x, "a", 1);
    Check.add(x, "b", 1);
    Check.add(x, "c", 1);
    x.drop(0);
    x.pair(1, 1, 1);
    x.put(1);
    x.put(1);
    x.put(1);
    x.put(2);
    Check.third(x, "zz");
    Check.third(x, "zy");
    Check.spell(x, "abcde");
    Check.press(x, "123456");
    x.share(77);
    int[] want = {3, 2, 1, 5, 6, 4, 2, 3, 77};
    for (int what = 0; what < 9; what++) {
      Check.due("many " + what, x.many(what), want[what]);
    }
    Check.due("many 9", x.many(9), -1);
    Check.due("many -1", x.many(-1), -1);
  }

  private static void share() {
    NineKeys x = new NineKeys();
    Check.due("0", x.share(0), 1);
    Check.due("100", x.share(100), 1);
    Check.due("101", x.share(101), NineKeys.NUMBER);
    Check.due("-1", x.share(-1), NineKeys.NUMBER);
    Check.due("now", x.many(8), 100);
  }

  private static void price() {
    NineKeys x = new NineKeys();
    Check.add(x, "ad", 1);
    String[] rows = {"13", "1", "122"};
    for (int slip = 0; slip < 3; slip++) {
      Check.press(x, rows[slip]);
      Check.due("at first " + slip, x.priced(1, 0), 100000);
      Check.due("told " + slip, x.price(slip, 40 + slip), 1);
      Check.due("then " + slip, x.priced(1, 0), 40 + slip);
      Check.due("too much " + slip, x.price(slip, 100001), NineKeys.NUMBER);
      Check.due("too little " + slip, x.price(slip, -1), NineKeys.NUMBER);
      Check.due("still " + slip, x.priced(1, 0), 40 + slip);
      Check.due("most " + slip, x.price(slip, 100000), 1);
      Check.due("least " + slip, x.price(slip, 0), 1);
      Check.due("nothing " + slip, x.priced(1, 0), 0);
    }
    Check.due("slip 3", x.price(3, 1), NineKeys.NUMBER);
    Check.due("slip -1", x.price(-1, 1), NineKeys.NUMBER);
  }
}

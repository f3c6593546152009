/** Promises 17 to 27: pressing. */
public final class PressingTest {
  public static void main(String[] args) {
    press();
    back();
    offers();
    slips();
    slipsBySlide();
    slipOfPriceNothing();
    offer();
    offersByWorth();
    priced();
    take();
    takeFull();
    third();
    thirdOfAWordThatWasNew();
    thirdFull();
    thirdLetsGo();
    newcomer();
    newcomerInAFreePlace();
    put();
    wipe();
    text();
    Check.finish();
  }

  private static void press() {
    NineKeys x = new NineKeys();
    Check.due("0", x.press(0), NineKeys.NUMBER);
    Check.due("10", x.press(10), NineKeys.NUMBER);
    Check.due("-1", x.press(-1), NineKeys.NUMBER);
    for (int n = 1; n <= 12; n++) {
      Check.due("press " + n, x.press(1 + n % 9), n);
    }
    Check.due("13th", x.press(1), NineKeys.FULL);
    Check.due("number first", x.press(0), NineKeys.NUMBER);
    Check.due("twelve", x.many(4), 12);
  }

  private static void back() {
    NineKeys x = new NineKeys();
    Check.due("empty", x.back(), NineKeys.STATE);
    Check.add(x, "ad", 1);
    Check.press(x, "123");
    Check.due("back", x.back(), 2);
    Check.due("the last one went", x.offers(1, -1), 1);
    Check.due("back again", x.back(), 1);
    Check.due("and again", x.back(), 0);
    Check.due("empty then", x.back(), NineKeys.STATE);
  }

  private static void offers() {
    NineKeys x = new NineKeys();
    Check.due("kind 4", x.offers(4, 0), NineKeys.NUMBER);
    Check.due("kind -1", x.offers(-1, 0), NineKeys.NUMBER);
    Check.due("tap", x.offers(0, 0), NineKeys.KIND);
    Check.due("no words", x.offers(1, 100000), 0);
    Check.add(x, "aab", 1);
    Check.add(x, "ab", 1);
    Check.add(x, "a", 1);
    Check.add(x, "ad", 1);
    for (int kind = 1; kind < 4; kind++) {
      Check.due("empty row, kind " + kind, x.offers(kind, -1), 0);
    }
    Check.press(x, "1");
    Check.due("guess 1", x.offers(1, -1), 1);
    Check.due("slide 1", x.offers(2, -1), 3);
    Check.due("shorter 1", x.offers(3, -1), 4);
    Check.press(x, "11");
    Check.due("guess 11", x.offers(1, -1), 1);
    Check.due("slide 11", x.offers(2, -1), 0);
    Check.due("shorter 11", x.offers(3, -1), 2);
    Check.press(x, "1111");
    Check.due("shorter 1111", x.offers(3, -1), 0);
    Check.press(x, "11");
    x.drop(1);
    Check.due("guess without the gone", x.offers(1, -1), 0);
    Check.due("shorter without the gone", x.offers(3, -1), 1);
    x.deal(1, 5);
    Check.due("shorter after deal", x.offers(3, -1), 1);
    Check.press(x, "115");
    Check.due("guess after deal", x.offers(1, -1), 1);
    Check.press(x, "15");
    Check.due("slide after deal", x.offers(2, -1), 1);
  }

  private static void slips() {
    NineKeys x = new NineKeys();
    x.price(0, 10);
    x.price(1, 20);
    x.price(2, 30);
    Check.add(x, "amma", 1);
    String met = "1551";
    String[] besides = {"2551", "4551", "1251", "1451", "1651", "1851", "1521", "1541", "1561", "1581", "1552", "1554"};
    String[] leftOut = {"551", "151", "155"};
    String[] twice = {"11551", "15551", "15511"};
    String[] none = {"3551", "5551", "1351", "2552", "1155", "15151", "1251551", "15512", "51", "1511", "1", "115511"};
    Check.press(x, met);
    Check.due(met, x.offers(1, -1), 1);
    Check.due(met + " priced", x.priced(1, 0), 0);
    slipsOf(x, besides, 10);
    slipsOf(x, leftOut, 20);
    slipsOf(x, twice, 30);
    for (String row : none) {
      Check.press(x, row);
      Check.due(row + " offers", x.offers(1, 100000), 0);
      Check.due(row + " priced", x.priced(1, 0), -1);
      Check.due(row + " shorter", x.offers(3, 100000), row.equals("1") ? 1 : 0);
    }
    Check.due("a", Check.add(x, "a", 1), 1);
    Check.press(x, "");
    Check.due("one key left out of none", x.priced(1, 1), 20);
    Check.due("by slide too", x.priced(2, 1), 20);
    Check.due("not by shorter", x.priced(3, 1), -1);
    Check.due("offers of none", x.offers(1, 20), 1);
    Check.due("offers of none, less", x.offers(1, 19), 0);
  }

  private static void slipsOf(NineKeys x, String[] rows, int price) {
    for (String row : rows) {
      Check.press(x, row);
      Check.due(row + " below the limit", x.offers(1, price - 1), 0);
      Check.due(row + " at the limit", x.offers(1, price), 1);
      Check.due(row + " at no limit", x.offers(1, Integer.MAX_VALUE), 1);
      Check.due(row + " at least limit", x.offers(1, Integer.MIN_VALUE), 0);
      Check.due(row + " priced", x.priced(1, 0), price);
      Check.due(row + " by shorter", x.priced(3, 0), "1551".startsWith(row) ? 0 : -1);
    }
  }

  private static void slipsBySlide() {
    NineKeys x = new NineKeys();
    x.price(0, 10);
    x.price(1, 20);
    x.price(2, 30);
    Check.add(x, "ammaab", 1);
    String[] rows = {"151", "121", "15", "51", "11", "1551", "1151", "1511", "15511", "155111", "131"};
    int[] want = {0, 10, 20, 20, 20, 30, 30, 30, -1, -1, -1};
    for (int i = 0; i < rows.length; i++) {
      Check.press(x, rows[i]);
      Check.due("slide " + rows[i], x.priced(2, 0), want[i]);
    }
  }

  private static void slipOfPriceNothing() {
    NineKeys x = new NineKeys();
    Check.add(x, "ad", 1);
    x.price(0, 0);
    Check.press(x, "13");
    Check.due("limit -1", x.offers(1, -1), 0);
    Check.due("limit 0", x.offers(1, 0), 1);
    Check.due("priced", x.priced(1, 0), 0);
  }

  private static void offer() {
    NineKeys x = new NineKeys();
    Check.due("no words", x.offer(1, 0, 0), -1);
    Check.add(x, "c", 5);
    Check.add(x, "b", 9);
    Check.add(x, "a", 5);
    Check.add(x, "ab", 5);
    Check.press(x, "1");
    int[] guess = {1, 2, 0, -1};
    int[] shorter = {1, 2, 3, 0, -1};
    for (int i = 0; i < guess.length; i++) {
      Check.due("guess " + i, x.offer(1, -1, i), guess[i]);
    }
    for (int i = 0; i < shorter.length; i++) {
      Check.due("slide " + i, x.offer(2, -1, i), shorter[i]);
      Check.due("shorter " + i, x.offer(3, -1, i), shorter[i]);
    }
    Check.due("i -1", x.offer(1, 0, -1), -1);
    Check.due("i far", x.offer(1, 0, Integer.MAX_VALUE), -1);
    Check.due("tap", x.offer(0, 0, 0), -1);
    Check.due("kind 4", x.offer(4, 0, 0), -1);
    Check.due("kind -1", x.offer(-1, 0, 0), -1);
    x.pair(0, 0, 100);
    x.put(0);
    Check.due("first by pair", x.offer(1, -1, 0), 0);
  }

  private static void offersByWorth() {
    NineKeys x = new NineKeys();
    x.share(0);
    x.price(0, 300);
    x.price(1, 200);
    x.price(2, 100);
    Check.add(x, "aa", 10);
    Check.add(x, "ad", 13);
    Check.add(x, "aac", 14);
    Check.add(x, "b", 11);
    Check.press(x, "11");
    int[] want = {2, 0, 1, 3, -1};
    for (int i = 0; i < want.length; i++) {
      Check.due("worth " + i, x.offer(1, 300, i), want[i]);
    }
    int[] within200 = {2, 0, 3, -1};
    for (int i = 0; i < within200.length; i++) {
      Check.due("within 200: " + i, x.offer(1, 200, i), within200[i]);
    }
    x.price(0, 100000);
    Check.due("far below nothing", x.offer(1, 100000, 3), 1);
  }

  private static void priced() {
    NineKeys x = new NineKeys();
    Check.due("no word", x.priced(1, 0), -2);
    Check.due("no word by tap", x.priced(0, 0), -2);
    Check.add(x, "ad", 1);
    Check.due("kind 4", x.priced(4, 0), -2);
    Check.due("kind -1", x.priced(-1, 0), -2);
    Check.due("word -1", x.priced(1, -1), -2);
    Check.due("tap", x.priced(0, 0), NineKeys.KIND);
    Check.press(x, "1");
    Check.due("shorter", x.priced(3, 0), 0);
    Check.due("guess", x.priced(1, 0), 100000);
    Check.press(x, "9");
    Check.due("none", x.priced(1, 0), -1);
    Check.press(x, "12");
    Check.due("met", x.priced(1, 0), 0);
    x.drop(0);
    Check.due("gone", x.priced(1, 0), -1);
    Check.due("gone by tap", x.priced(0, 0), NineKeys.KIND);
    Check.press(x, "");
    Check.due("gone, nothing pressed", x.priced(1, 0), -1);
    Check.due("gone, nothing pressed, offers", x.offers(1, 100000), 0);
  }

  private static void take() {
    NineKeys x = new NineKeys();
    Check.due("kind 4", x.take(4, 0, 0), NineKeys.NUMBER);
    Check.due("kind -1", x.take(-1, 0, 0), NineKeys.NUMBER);
    Check.due("tap", x.take(0, 0, 0), NineKeys.KIND);
    Check.due("none", x.take(1, 0, 0), NineKeys.NONE);
    Check.add(x, "a", 999999);
    Check.add(x, "b", 7);
    Check.press(x, "1");
    Check.due("i 2", x.take(1, 0, 2), NineKeys.NONE);
    Check.due("i -1", x.take(1, 0, -1), NineKeys.NONE);
    Check.due("pressed stays", x.many(4), 1);
    Check.due("taken", x.take(1, 0, 1), 1);
    Check.due("pressed is empty", x.many(4), 0);
    Check.due("count", x.word(1, 1), 8);
    Check.due("use", x.word(1, 2), 3);
    Check.due("no pair", x.many(2), 0);
    Check.due("text", x.text(0), 1);
    for (int i = 0; i < 2; i++) {
      Check.press(x, "1");
      Check.due("other taken", x.take(3, 0, 0), 0);
      Check.due("count stays at the most", x.word(0, 1), 1000000);
    }
    Check.due("pair", x.paired(1, 0), 1);
    Check.due("pair with itself", x.paired(0, 0), 1);
    x.pair(0, 0, 1000000);
    Check.press(x, "1");
    Check.due("by slide", x.take(2, 0, 0), 0);
    Check.due("pair stays at the most", x.paired(0, 0), 1000000);
    Check.due("clock", x.many(7), 6);
    x.put(1);
    x.drop(1);
    Check.press(x, "1");
    Check.due("behind a gone one", x.take(1, 0, 0), 0);
    Check.due("no pair with a gone one", x.many(2), 1);
    Check.due("text has all", x.many(5), 6);
  }

  private static void takeFull() {
    NineKeys x = new NineKeys();
    Check.add(x, "a", 1);
    for (int n = 1; n <= 60; n++) {
      Check.due("put", x.put(0), n);
    }
    Check.press(x, "1");
    Check.due("full", x.take(1, 0, 0), NineKeys.FULL);
    Check.due("none ahead of full", x.take(1, 0, 1), NineKeys.NONE);
    Check.due("pressed stays", x.many(4), 1);
    Check.due("count stays", x.word(0, 1), 1);
    Check.due("clock stays", x.many(7), 1);
    Check.due("put full", x.put(0), NineKeys.FULL);
  }

  private static void third() {
    NineKeys x = new NineKeys();
    Check.due("empty", x.third(), NineKeys.STATE);
    Check.due("first", Check.third(x, "no"), 101);
    Check.due("spelt is empty", x.many(3), 0);
    Check.due("no word", x.many(0), 0);
    Check.due("clock stays", x.many(7), 0);
    Check.due("nothing written", x.many(5), 0);
    Check.due("second", Check.third(x, "no"), 102);
    Check.due("another", Check.third(x, "on"), 101);
    Check.due("two newcomers", x.many(6), 2);
    Check.due("third", Check.third(x, "no"), 0);
    Check.due("spelt is empty again", x.many(3), 0);
    Check.due("one newcomer", x.many(6), 1);
    Check.due("count", x.word(0, 1), 3);
    Check.due("use", x.word(0, 2), 2);
    Check.due("clock", x.many(7), 2);
    Check.due("written", x.text(0), 0);
    Check.due("fourth", Check.third(x, "no"), 0);
    Check.due("count then", x.word(0, 1), 4);
    Check.due("use then", x.word(0, 2), 3);
    Check.due("paired", x.paired(0, 0), 1);
    x.drop(0);
    Check.due("gone: first again", Check.third(x, "no"), 101);
    Check.due("added", Check.add(x, "no", 5), 1);
    Check.due("newcomer all the same", x.many(6), 2);
    Check.due("learnt as a word", Check.third(x, "no"), 1);
    Check.due("no pair behind a gone one", x.many(2), 0);
    x.drop(1);
    Check.due("second again", Check.third(x, "no"), 102);
    Check.due("third again", Check.third(x, "no"), 2);
  }

  private static void thirdOfAWordThatWasNew() {
    NineKeys x = new NineKeys();
    Check.third(x, "no");
    Check.third(x, "no");
    Check.due("added", Check.add(x, "no", 5), 0);
    Check.due("learnt as a word", Check.third(x, "no"), 0);
    Check.due("once alone", x.many(0), 1);
    Check.due("count", x.word(0, 1), 6);
    Check.spell(x, "no");
    Check.due("newcomer all the same", x.newcomer(), 2);
  }

  private static void thirdFull() {
    NineKeys x = new NineKeys();
    Check.add(x, "a", 1);
    for (int n = 0; n < 60; n++) {
      x.put(0);
    }
    Check.due("known, text full", Check.third(x, "a"), NineKeys.FULL);
    Check.due("spelt stays", x.many(3), 1);
    Check.due("count stays", x.word(0, 1), 1);
    Check.due("first, text full", Check.third(x, "b"), 101);
    Check.due("second, text full", Check.third(x, "b"), 102);
    Check.due("third, text full", Check.third(x, "b"), NineKeys.FULL);
    Check.due("still twice", x.newcomer(), 2);
    Check.due("spelt stays then", x.many(3), 1);
    x.wipe();
    for (int n = 1; n < 80; n++) {
      Check.add(x, Check.name(n), 1);
    }
    Check.due("third, 80 words", Check.third(x, "b"), NineKeys.FULL);
    Check.due("still twice then", x.newcomer(), 2);
    Check.due("no word went", x.many(1), 40);
    Check.due("known, 80 words", Check.third(x, Check.name(79)), 79);
    Check.due("first, 80 words", Check.third(x, "c"), 101);
  }

  private static void thirdLetsGo() {
    NineKeys x = new NineKeys();
    for (int n = 0; n < 40; n++) {
      Check.add(x, Check.name(n), 1);
    }
    Check.third(x, "zz");
    Check.third(x, "zz");
    x.put(0);
    Check.due("41st", Check.third(x, "zz"), 40);
    Check.due("0 is gone", x.word(0, 3), 0);
    Check.due("no pair with the latest, which went", x.many(2), 0);
    Check.due("clock", x.many(7), 42);
    Check.due("use", x.word(40, 2), 42);
    x.put(5);
    Check.third(x, "zy");
    Check.third(x, "zy");
    Check.due("next", Check.third(x, "zy"), 41);
    Check.due("1 is gone", x.word(1, 3), 0);
    Check.due("paired with the latest", x.paired(5, 41), 1);
  }

  private static void newcomer() {
    NineKeys x = new NineKeys();
    Check.due("empty", x.newcomer(), 0);
    for (int n = 0; n < 8; n++) {
      Check.third(x, Check.name(n));
    }
    Check.third(x, Check.name(0));
    Check.due("eight", x.many(6), 8);
    Check.third(x, "zzz");
    Check.due("eight still", x.many(6), 8);
    int[] want = {2, 0, 1, 1, 1, 1, 1, 1};
    for (int n = 0; n < 8; n++) {
      Check.spell(x, Check.name(n));
      Check.due("newcomer " + n, x.newcomer(), want[n]);
    }
    Check.due("spelt stays", x.many(3), 3);
    Check.due("1 is new again", Check.third(x, Check.name(1)), 101);
    Check.spell(x, Check.name(2));
    Check.due("2 went", x.newcomer(), 0);
    Check.due("0 comes", Check.third(x, Check.name(0)), 0);
    Check.due("seven", x.many(6), 7);
    Check.due("room", Check.third(x, "yyy"), 101);
    Check.spell(x, Check.name(3));
    Check.due("3 stays", x.newcomer(), 1);
    Check.due("no room", Check.third(x, "xxx"), 101);
    Check.spell(x, Check.name(3));
    Check.due("3 went", x.newcomer(), 0);
    x.unspell();
    Check.due("none spelt", x.newcomer(), 0);
  }

  private static void newcomerInAFreePlace() {
    NineKeys x = new NineKeys();
    for (int n = 0; n < 8; n++) {
      Check.third(x, Check.name(n));
    }
    Check.third(x, Check.name(4));
    Check.due("4 comes", Check.third(x, Check.name(4)), 0);
    Check.due("another in its place", Check.third(x, "zzz"), 101);
    for (int n = 0; n < 8; n++) {
      Check.spell(x, Check.name(n));
      Check.due("newcomer " + n, x.newcomer(), n == 4 ? 0 : 1);
    }
  }

  private static void put() {
    NineKeys x = new NineKeys();
    Check.due("none", x.put(0), NineKeys.NUMBER);
    Check.add(x, "a", 3);
    Check.due("-1", x.put(-1), NineKeys.NUMBER);
    for (int n = 1; n <= 60; n++) {
      Check.due("put " + n, x.put(0), n);
    }
    Check.due("full", x.put(0), NineKeys.FULL);
    Check.due("nothing learnt", x.word(0, 1), 3);
    Check.due("no pair", x.many(2), 0);
    Check.due("clock", x.many(7), 1);
    x.drop(0);
    Check.due("gone ahead of full", x.put(0), NineKeys.STATE);
    Check.due("number ahead of full", x.put(1), NineKeys.NUMBER);
  }

  private static void wipe() {
    NineKeys x = new NineKeys();
    Check.add(x, "a", 3);
    x.pair(0, 0, 1000);
    x.put(0);
    x.put(0);
    Check.due("wiped", x.wipe(), 2);
    Check.due("empty", x.many(5), 0);
    Check.due("no text", x.text(0), -1);
    // 3 * 70 / 100 is a little less than 2.1 as a float.
    Check.due("no latest", x.word(0, 4), 209);
    Check.due("wiped again", x.wipe(), 0);
  }

  private static void text() {
    NineKeys x = new NineKeys();
    Check.add(x, "a", 3);
    Check.add(x, "b", 3);
    x.put(1);
    x.put(0);
    Check.due("0", x.text(0), 1);
    Check.due("1", x.text(1), 0);
    Check.due("2", x.text(2), -1);
    Check.due("-1", x.text(-1), -1);
    Check.due("far", x.text(Integer.MAX_VALUE), -1);
    x.drop(1);
    Check.due("gone", x.text(0), 1);
  }
}

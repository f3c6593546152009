import java.util.ArrayList;
import java.util.List;

/** Calls that must change nothing: two objects are made alike, one is called, and both are looked at all over. */
final class Still {
  interface Made {
    void on(NineKeys x);
  }

  interface Call {
    int of(NineKeys x);
  }

  /** Rows that tests write as newcomers, so that a look can ask for them. */
  private static final String[] ROWS = {"xy", "xz", "wxyz", "b", "q", "ad", "be", "zzzzzzzzzz"};

  private Still() {
  }

  /**
   * Words 0 "ad", 1 "be", 2 "cab" that are there and 3 "q" that is gone, with pairs; THE PRESSED is the keys of 0
   * and 1; the newcomers are "xy" (twice) and "xz", and THE SPELT is "xy"; THE TEXT is 2 0.
   */
  static void usual(NineKeys x) {
    Check.add(x, "ad", 5);
    Check.add(x, "be", 9);
    Check.add(x, "cab", 3);
    Check.add(x, "q", 4);
    x.drop(3);
    x.pair(0, 1, 7);
    x.pair(1, 0, 2);
    x.pair(2, 2, 1);
    x.price(0, 300);
    x.price(1, 200);
    x.price(2, 100);
    Check.third(x, "xy");
    Check.third(x, "xz");
    Check.third(x, "xy");
    x.put(2);
    x.put(0);
    Check.press(x, "12");
    Check.spell(x, "xy");
  }

  static void fillText(NineKeys x, int w) {
    while (x.many(5) < 60) {
      x.put(w);
    }
  }

  /** Words come until there were so many; THE SPELT is empty then. */
  static void fillWords(NineKeys x, int some) {
    for (int n = x.many(0); n < some; n++) {
      Check.due("word " + n, Check.add(x, Check.name(n), 1), n);
    }
  }

  /** Pairs of the last thirteen words until there are so many. */
  static void fillPairs(NineKeys x, int some) {
    int first = x.many(0) - 13;
    for (int n = 0; n < 169 && x.many(2) < some; n++) {
      x.pair(first + n / 13, first + n % 13, 1 + n);
    }
    Check.due("pairs", x.many(2), some);
  }

  /** a, b, c, aa .. cc, aaa .. ccc and one of four: all have key 1 alone. THE PRESSED is that key. */
  static void fortyOfOneKey(NineKeys x) {
    for (char a = 'a'; a <= 'c'; a++) {
      Check.add(x, "" + a, 1);
      for (char b = 'a'; b <= 'c'; b++) {
        Check.add(x, "" + a + b, 1);
        for (char c = 'a'; c <= 'c'; c++) {
          Check.add(x, "" + a + b + c, 1);
        }
      }
    }
    Check.add(x, "cccc", 1);
    Check.due("forty", x.many(1), 40);
    Check.press(x, "1");
  }

  /** The call's answer is as due, and it changed nothing. */
  static void due(String name, Made made, Call call, int want) {
    NineKeys called = new NineKeys();
    NineKeys other = new NineKeys();
    made.on(called);
    made.on(other);
    Check.due(name, call.of(called), want);
    Check.due(name + ", again", call.of(called), want);
    same(name, called, other);
  }

  /** Both objects answer alike, whatever is asked. */
  static void same(String name, NineKeys one, NineKeys other) {
    alike(name + " changed: ", looked(one), looked(other));
    alike(name + " changed, as seen later: ", takenApart(one), takenApart(other));
  }

  private static void alike(String name, List<String> got, List<String> want) {
    int unlike = 0;
    while (unlike < got.size() && unlike < want.size() && got.get(unlike).equals(want.get(unlike))) {
      unlike++;
    }
    String seen = unlike < got.size() ? got.get(unlike) : "";
    Check.due(name + seen, unlike == want.size() && unlike == got.size(), true);
  }

  private static List<String> looked(NineKeys x) {
    List<String> seen = new ArrayList<>();
    for (int what = 0; what < 9; what++) {
      seen.add("many " + what + ": " + x.many(what));
    }
    for (int l = 0; l < 26; l++) {
      seen.add("letter " + l + ": " + x.letter(l, 0) + " " + x.letter(l, 1));
    }
    for (int w = 0; w < x.many(0); w++) {
      lookAtWord(x, w, seen);
    }
    for (int i = 0; i <= x.many(5); i++) {
      seen.add("text " + i + ": " + x.text(i) + " " + x.plan(i));
    }
    lookAtOffers(x, seen);
    seen.add("find " + x.find() + ", newcomer " + x.newcomer() + ", fewest " + x.fewest() + ", taps " + x.taps());
    seen.add("clash " + x.clash() + " " + x.clashing(0) + " " + x.clashing(1) + " " + x.clashes());
    return seen;
  }

  private static void lookAtWord(NineKeys x, int w, List<String> seen) {
    for (int what = 0; what < 20; what++) {
      seen.add("word " + w + " " + what + ": " + x.word(w, what));
    }
    for (int v = 0; v < x.many(0); v++) {
      seen.add("paired " + w + " " + v + ": " + x.paired(w, v));
    }
    for (int kind = 0; kind < 4; kind++) {
      seen.add("cost " + w + " " + kind + ": " + x.cost(w, kind));
      seen.add("priced " + kind + " " + w + ": " + x.priced(kind, w));
    }
  }

  private static void lookAtOffers(NineKeys x, List<String> seen) {
    for (int kind = 1; kind < 4; kind++) {
      int some = x.offers(kind, 100000);
      seen.add("offers " + kind + ": " + some + " " + x.offers(kind, -1));
      for (int i = 0; i < some; i++) {
        seen.add("offer " + kind + " " + i + ": " + x.offer(kind, 100000, i));
      }
    }
  }

  /** What can't be seen without changing it: THE SPELT, THE PRESSED, the prices, and the newcomers in their order. */
  private static List<String> takenApart(NineKeys x) {
    List<String> seen = new ArrayList<>();
    for (int n = 0; x.many(4) > 0 && n < 12; n++) {
      lookAtOffers(x, seen);
      seen.add("back " + x.back());
    }
    for (String row : new String[] {"13", "1", "122", "2", "112", ""}) {
      Check.press(x, row);
      lookAtOffers(x, seen);
    }
    int came = x.add(1);
    seen.add("add " + came);
    for (int i = 0; i < 10; i++) {
      seen.add("its letter " + i + ": " + x.word(came, 10 + i));
    }
    for (int n = 0; n <= 8; n++) {
      for (String row : ROWS) {
        Check.spell(x, row);
        seen.add("newcomer " + row + ": " + x.newcomer());
      }
      seen.add("many 6: " + x.many(6));
      Check.third(x, "ytrewq" + (char) ('a' + n));
    }
    return seen;
  }
}

import java.util.Random;

/**
 * Random runs of some hundred calls on NineKeys and on Model, which must answer alike. The seeds are fixed, so that each
 * run of the test makes the same calls. A run has a mood: how many letters it uses, how long its words are.
 */
public final class ModelTest {
  private static final int RUNS = 400;
  private static final int CALLS = 300;

  private final Random random;
  private final NineKeys x = new NineKeys();
  private final Model model = new Model();
  private final StringBuilder story = new StringBuilder();
  private final int letters;
  private final int longest;
  private final int pressWeight;
  private final boolean large;
  private final boolean crowded;
  private int bests;
  private boolean unlike = false;

  private ModelTest(int seed) {
    random = new Random(seed);
    letters = random.nextInt(3) == 0 ? 26 : 2 + random.nextInt(6);
    longest = 1 + random.nextInt(random.nextInt(4) == 0 ? 10 : 4);
    pressWeight = 1 + random.nextInt(4);
    large = random.nextInt(4) == 0;
    crowded = random.nextInt(4) == 0;
    bests = seed % 40 == 0 ? 2 : 0;
  }

  public static void main(String[] args) {
    int wrong = 0;
    for (int seed = 0; seed < RUNS; seed++) {
      ModelTest run = new ModelTest(seed);
      run.go();
      if (run.unlike) {
        wrong++;
        System.out.println("seed " + seed + ":\n" + run.story);
        if (wrong >= 3) {
          break;
        }
      }
    }
    System.out.println(wrong == 0 ? RUNS + " runs are alike" : "runs are unlike");
    if (wrong != 0) {
      System.exit(1);
    }
  }

  /** Brings the run near to as many words, or as many pairs, as may be. */
  private void crowd() {
    int some = below(2) == 0 ? 30 + below(12) : 60 + below(20);
    for (int n = 0; n < some; n++) {
      same("unspell()", x.unspell(), model.unspell());
      int a = n % letters;
      int b = n / letters % letters;
      int c = n / letters / letters;
      same("spell(" + a + ", " + b + ", " + c + ", -1, 0)", x.spell(a, b, c, -1, 0), model.spell(a, b, c, -1, 0));
      int count = someCount();
      same("add(" + count + ")", x.add(count), model.add(count));
    }
    for (int n = 0; n < 140; n++) {
      int v = someWord();
      int w = someWord();
      same("pair(" + v + ", " + w + ", 3)", x.pair(v, w, 3), model.pair(v, w, 3));
    }
  }

  private void go() {
    if (crowded) {
      crowd();
    }
    for (int n = 0; n < CALLS && !unlike; n++) {
      call();
      if (n % 64 == 63 && !unlike) {
        compareAll();
      }
    }
  }

  private void same(String call, long got, long want) {
    story.append(call).append(" -> ").append(got).append('\n');
    if (got != want) {
      unlike = true;
      story.append("   due is ").append(want).append('\n');
    }
  }

  private int below(int n) {
    return random.nextInt(n);
  }

  private int odd() {
    int[] odd = {-1, -2, 26, 27, 80, 100, 1000001, Integer.MAX_VALUE, Integer.MIN_VALUE};
    return odd[below(odd.length)];
  }

  private int number(int from, int to) {
    return below(40) == 0 ? odd() : from + below(to - from + 1);
  }

  private int someLetter() {
    return number(0, letters - 1);
  }

  private int someWord() {
    return number(below(20) == 0 ? -1 : 0, Math.max(0, model.many(0) - (below(20) == 0 ? 0 : 1)));
  }

  private int someCount() {
    if (large) {
      return number(999990, 1000000);
    }
    return below(6) == 0 ? number(0, 1000000) : number(1, 12);
  }

  private int someKind() {
    return below(12) == 0 ? number(-1, 4) : 1 + below(3);
  }

  private int someLimit() {
    int[] limits = {-1, 0, 50, 100, 99999, 100000, Integer.MAX_VALUE};
    return limits[below(limits.length)];
  }

  private void call() {
    switch (below(12)) {
      case 0:
        lettersAndKeys();
        break;
      case 1:
      case 2:
      case 3:
        wordComes();
        break;
      case 4:
      case 5:
        wordsChange();
        break;
      case 6:
        settingsAndLooks();
        break;
      case 7:
      case 8:
        for (int n = 0; n < pressWeight; n++) {
          pressing();
        }
        break;
      case 9:
        textChanges();
        break;
      default:
        presses();
        break;
    }
  }

  private void lettersAndKeys() {
    int a = below(3) == 0 ? number(0, 25) : someLetter();
    int b = number(1, 9);
    switch (below(4)) {
      case 0:
        same("deal(" + a + ", " + b + ")", x.deal(a, b), model.deal(a, b));
        break;
      case 1:
        int what = number(-1, 2);
        same("letter(" + a + ", " + what + ")", x.letter(a, what), model.letter(a, what));
        break;
      case 2:
        int c = number(0, 10);
        same("beside(" + b + ", " + c + ")", x.beside(b, c) ? 1 : 0, model.beside(b, c) ? 1 : 0);
        break;
      default:
        same("swap()", x.swap(), model.swap());
        break;
    }
  }

  private void spellSome() {
    int some = 1 + below(longest);
    for (int done = 0; done < some; done += 5) {
      int[] l = new int[5];
      for (int i = 0; i < 5; i++) {
        l[i] = done + i < some ? someLetter() : i == some - done ? -1 : odd();
      }
      String call = "spell(" + l[0] + ", " + l[1] + ", " + l[2] + ", " + l[3] + ", " + l[4] + ")";
      same(call, x.spell(l[0], l[1], l[2], l[3], l[4]), model.spell(l[0], l[1], l[2], l[3], l[4]));
    }
  }

  private void wordComes() {
    if (below(8) != 0) {
      same("unspell()", x.unspell(), model.unspell());
    }
    if (below(12) != 0) {
      spellSome();
    }
    switch (below(5)) {
      case 0:
      case 1:
        int count = someCount();
        same("add(" + count + ")", x.add(count), model.add(count));
        break;
      case 2:
        same("third()", x.third(), model.third());
        break;
      case 3:
        thirdAgain();
        break;
      default:
        same("find()", x.find(), model.find());
        same("newcomer()", x.newcomer(), model.newcomer());
        break;
    }
  }

  /** Writes one of few rows, so that some come to be written for the third time. */
  private void thirdAgain() {
    same("unspell()", x.unspell(), model.unspell());
    int a = below(Math.min(letters, 9));
    same("spell(" + a + ", 0, -1, 0, 0)", x.spell(a, 0, -1, 0, 0), model.spell(a, 0, -1, 0, 0));
    same("newcomer()", x.newcomer(), model.newcomer());
    same("third()", x.third(), model.third());
  }

  private void wordsChange() {
    int v = someWord();
    int w = someWord();
    int count = someCount();
    switch (below(8)) {
      case 0:
        same("drop(" + v + ")", x.drop(v), model.drop(v));
        break;
      case 1:
        same("count(" + v + ", " + count + ")", x.count(v, count), model.count(v, count));
        break;
      case 2:
        same("pair(" + v + ", " + w + ", 0)", x.pair(v, w, 0), model.pair(v, w, 0));
        break;
      case 3:
        int what = number(-1, 21);
        same("word(" + v + ", " + what + ")", x.word(v, what), model.word(v, what));
        break;
      case 4:
        same("paired(" + v + ", " + w + ")", x.paired(v, w), model.paired(v, w));
        break;
      default:
        for (int n = 0; n < 1 + below(4); n++) {
          int u = someWord();
          same("pair(" + u + ", " + w + ", " + count + ")", x.pair(u, w, count), model.pair(u, w, count));
        }
        break;
    }
  }

  private void settingsAndLooks() {
    switch (below(3)) {
      case 0:
        int share = below(3) == 0 ? number(-1, 101) : 10 * below(11);
        same("share(" + share + ")", x.share(share), model.share(share));
        break;
      case 1:
        int slip = below(8) == 0 ? number(-1, 3) : below(3);
        int price = below(8) == 0 ? odd() : new int[] {0, 50, 99, 100, 700, 100000}[below(6)];
        same("price(" + slip + ", " + price + ")", x.price(slip, price), model.price(slip, price));
        break;
      default:
        int what = number(-1, 9);
        same("many(" + what + ")", x.many(what), model.many(what));
        break;
    }
  }

  /** Presses the keys of a word, at times with a slip. */
  private void pressWord() {
    while (model.many(4) > 0) {
      same("back()", x.back(), model.back());
    }
    int w = someWord();
    int size = model.word(w, 0);
    for (int i = 0; i < size; i++) {
      int key = model.letter(model.word(w, 10 + i), 0);
      int slip = below(12);
      int times = slip == 0 ? 0 : slip == 1 ? 2 : 1;
      key = slip == 2 ? number(1, 9) : key;
      for (int n = 0; n < times; n++) {
        same("press(" + key + ")", x.press(key), model.press(key));
      }
    }
  }

  private void pressing() {
    int kind = someKind();
    int limit = someLimit();
    int i = below(3) == 0 ? number(-1, 5) : 0;
    switch (below(8)) {
      case 0:
      case 1:
        pressWord();
        break;
      case 2:
        int key = number(1, 9);
        same("press(" + key + ")", x.press(key), model.press(key));
        break;
      case 3:
        same("back()", x.back(), model.back());
        break;
      case 4:
        same("offers(" + kind + ", " + limit + ")", x.offers(kind, limit), model.offers(kind, limit));
        break;
      case 5:
        String call = "offer(" + kind + ", " + limit + ", ";
        for (int j = -1; j < 5; j++) {
          same(call + j + ")", x.offer(kind, limit, j), model.offer(kind, limit, j));
        }
        break;
      case 6:
        int w = someWord();
        same("priced(" + kind + ", " + w + ")", x.priced(kind, w), model.priced(kind, w));
        break;
      default:
        same("take(" + kind + ", " + limit + ", " + i + ")", x.take(kind, limit, i), model.take(kind, limit, i));
        break;
    }
  }

  private void textChanges() {
    switch (below(16)) {
      case 0:
        same("wipe()", x.wipe(), model.wipe());
        break;
      case 1:
        int i = number(-1, 60);
        same("text(" + i + ")", x.text(i), model.text(i));
        break;
      default:
        for (int n = 0; n < 3; n++) {
          int w = someWord();
          same("put(" + w + ")", x.put(w), model.put(w));
        }
        break;
    }
  }

  private void presses() {
    int w = someWord();
    switch (below(8)) {
      case 0:
      case 1:
        int kind = number(0, 3);
        same("cost(" + w + ", " + kind + ")", x.cost(w, kind), model.cost(w, kind));
        break;
      case 2:
        onlyThereInText();
        same("fewest()", x.fewest(), model.fewest());
        break;
      case 3:
        onlyThereInText();
        int i = number(-1, Math.max(0, model.many(5)));
        same("plan(" + i + ")", x.plan(i), model.plan(i));
        break;
      case 4:
        same("taps()", x.taps(), model.taps());
        break;
      case 5:
        if (bests > 0 && model.many(5) > 2) {
          bests--;
          same("best()", x.best(), model.best());
        }
        break;
      case 6:
        same("swap()", x.swap(), model.swap());
        break;
      default:
        same("clash()", x.clash(), model.clash());
        same("clashes()", x.clashes(), model.clashes());
        int j = number(-1, 3);
        same("clashing(" + j + ")", x.clashing(j), model.clashing(j));
        break;
    }
  }

  /** A text with a gone word has no plan; mostly it is written anew then. */
  private void onlyThereInText() {
    if (below(6) == 0 || model.fewest() >= 0) {
      return;
    }
    same("wipe()", x.wipe(), model.wipe());
    for (int n = 0; n < 12; n++) {
      int w = someWord();
      same("put(" + w + ")", x.put(w), model.put(w));
    }
  }

  private void compareAll() {
    for (int what = 0; what < 9; what++) {
      same("many(" + what + ")", x.many(what), model.many(what));
    }
    for (int w = 0; w < model.many(0); w++) {
      for (int what = 0; what < 20; what++) {
        same("word(" + w + ", " + what + ")", x.word(w, what), model.word(w, what));
      }
      for (int v = 0; v < model.many(0); v++) {
        same("paired(" + v + ", " + w + ")", x.paired(v, w), model.paired(v, w));
      }
      for (int kind = 0; kind < 4; kind++) {
        same("cost(" + w + ", " + kind + ")", x.cost(w, kind), model.cost(w, kind));
      }
    }
    for (int l = 0; l < 26; l++) {
      same("letter(" + l + ", 0)", x.letter(l, 0), model.letter(l, 0));
      same("letter(" + l + ", 1)", x.letter(l, 1), model.letter(l, 1));
    }
    for (int i = 0; i < 61; i++) {
      same("text(" + i + ")", x.text(i), model.text(i));
    }
    same("fewest()", x.fewest(), model.fewest());
    for (int i = 0; i <= model.many(5) && i < 8; i++) {
      same("plan(" + i + ")", x.plan(i), model.plan(i));
    }
    same("taps()", x.taps(), model.taps());
  }
}

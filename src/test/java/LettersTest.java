/** Promises 1 to 4: a new object, letters and keys. */
public final class LettersTest {
  public static void main(String[] args) {
    newObject();
    deal();
    letter();
    beside();
    Check.finish();
  }

  private static void newObject() {
    NineKeys x = new NineKeys();
    for (int what = 0; what < 8; what++) {
      Check.due("new: many " + what, x.many(what), 0);
    }
    Check.due("new: share", x.many(8), 30);
    for (int l = 0; l < 26; l++) {
      Check.due("new: key of " + l, x.letter(l, 0), 1 + l / 3);
      Check.due("new: position of " + l, x.letter(l, 1), 1 + l % 3);
    }
    Check.due("new: text", x.text(0), -1);
    Check.due("new: word", x.word(0, 0), -1);
    Check.due("new: unspell", x.unspell(), 0);
    Check.due("new: wipe", x.wipe(), 0);
    Check.due("new: back", x.back(), NineKeys.STATE);
    NineKeys other = new NineKeys();
    Check.add(other, "ab", 5);
    other.deal(0, 9);
    Check.due("objects share no words", x.many(0), 0);
    Check.due("objects share no deal", x.letter(0, 0), 1);
  }

  private static void deal() {
    NineKeys x = new NineKeys();
    Check.due("deal same", x.deal(0, 1), 0);
    Check.due("deal other", x.deal(0, 2), 1);
    Check.due("deal other again", x.deal(0, 2), 0);
    Check.due("key dealt", x.letter(0, 0), 2);
    Check.due("deal back", x.deal(0, 1), 1);
    Check.due("deal last letter", x.deal(25, 1), 1);
    Check.due("deal first key to 9", x.deal(0, 9), 1);
    int[][] wrong = {{-1, 1}, {26, 1}, {0, 0}, {0, 10}, {0, -1}, {Integer.MIN_VALUE, 1}, {1, Integer.MAX_VALUE}};
    for (int[] w : wrong) {
      Check.due("deal " + w[0] + " " + w[1], x.deal(w[0], w[1]), NineKeys.NUMBER);
    }
    Check.due("key after refusals", x.letter(0, 0), 9);
  }

  private static void letter() {
    NineKeys x = new NineKeys();
    x.deal(25, 1);
    x.deal(1, 4);
    Check.due("position of a", x.letter(0, 1), 1);
    Check.due("position of c without b", x.letter(2, 1), 2);
    Check.due("position of z at key 1", x.letter(25, 1), 3);
    Check.due("position of b at key 4", x.letter(1, 1), 1);
    Check.due("position of j behind b", x.letter(9, 1), 2);
    Check.due("what 2", x.letter(0, 2), NineKeys.NUMBER);
    Check.due("what -1", x.letter(0, -1), NineKeys.NUMBER);
    Check.due("letter 26", x.letter(26, 0), NineKeys.NUMBER);
    Check.due("letter -1", x.letter(-1, 1), NineKeys.NUMBER);
  }

  private static void beside() {
    NineKeys x = new NineKeys();
    String pairs = " 12 23 45 56 78 89 14 47 25 58 36 69 ";
    for (int a = -1; a <= 11; a++) {
      for (int b = -1; b <= 11; b++) {
        boolean want = a >= 1 && b >= 1 && a <= 9 && b <= 9
            && pairs.contains(" " + Math.min(a, b) + Math.max(a, b) + " ");
        Check.due("beside " + a + " " + b, x.beside(a, b), want);
      }
    }
    Check.due("beside far", x.beside(Integer.MIN_VALUE, Integer.MAX_VALUE), false);
  }
}

import java.util.ArrayList;
import java.util.Arrays;
import java.util.HashMap;
import java.util.LinkedHashMap;
import java.util.List;
import java.util.Map;
import java.util.TreeMap;

/**
 * A second reading of the document, as plain as can be: rows are texts (letters 'a' to 'z', keys '1' to '9'),
 * and what is least or best is found by trying everything. It is the measure of NineKeys in ModelTest.
 */
final class Model {
  private static final int NUMBER = -1;
  private static final int FULL = -2;
  private static final int TWICE = -3;
  private static final int STATE = -4;
  private static final int KIND = -5;
  private static final int NONE = -6;

  private static final class Entry {
    String letters;
    int count;
    int use;
    boolean there = true;
  }

  private final int[] deal = new int[26];
  private final List<Entry> words = new ArrayList<>();
  private final Map<List<Integer>, Integer> pairs = new HashMap<>();
  private final List<Integer> text = new ArrayList<>();
  /** In the order in which they came or counted, the longest ago first. */
  private final LinkedHashMap<String, Integer> newcomers = new LinkedHashMap<>();
  private final int[] prices = {100000, 100000, 100000};
  private String spelt = "";
  private String pressed = "";
  private int clock = 0;
  private int share = 30;

  Model() {
    for (int l = 0; l < 26; l++) {
      deal[l] = 1 + l / 3;
    }
  }

  // ---- letters and keys

  int deal(int letter, int key) {
    if (letter < 0 || letter > 25 || key < 1 || key > 9) {
      return NUMBER;
    }
    int was = deal[letter];
    deal[letter] = key;
    return was == key ? 0 : 1;
  }

  int letter(int letter, int what) {
    if (letter < 0 || letter > 25 || what < 0 || what > 1) {
      return NUMBER;
    }
    return what == 0 ? deal[letter] : position(letter, deal);
  }

  private static int position(int letter, int[] deal) {
    int position = 0;
    for (int l = 0; l < 26; l++) {
      if (deal[l] == deal[letter] && l <= letter) {
        position++;
      }
    }
    return position;
  }

  boolean beside(int a, int b) {
    List<String> lines = List.of("123", "456", "789", "147", "258", "369");
    for (String line : lines) {
      if (line.contains("" + a + b) || line.contains("" + b + a)) {
        return a > 0 && b > 0 && a < 10 && b < 10;
      }
    }
    return false;
  }

  // ---- words

  int spell(int a, int b, int c, int d, int e) {
    String more = "";
    for (int l : new int[] {a, b, c, d, e}) {
      if (l == -1) {
        break;
      }
      if (l < 0 || l > 25) {
        return NUMBER;
      }
      more += (char) ('a' + l);
    }
    if ((spelt + more).length() > 10) {
      return FULL;
    }
    spelt += more;
    return spelt.length();
  }

  int unspell() {
    int had = spelt.length();
    spelt = "";
    return had;
  }

  int add(int count) {
    if (count < 1 || count > 1000000) {
      return NUMBER;
    }
    if (spelt.isEmpty()) {
      return STATE;
    }
    if (find() >= 0) {
      return TWICE;
    }
    if (words.size() == 80) {
      return FULL;
    }
    return come(count);
  }

  private int come(int count) {
    if (many(1) == 40) {
      int least = -1;
      for (int w = 0; w < words.size(); w++) {
        if (isThere(w) && (least < 0 || words.get(w).use < words.get(least).use)) {
          least = w;
        }
      }
      drop(least);
    }
    Entry entry = new Entry();
    entry.letters = spelt;
    entry.count = count;
    entry.use = ++clock;
    words.add(entry);
    spelt = "";
    return words.size() - 1;
  }

  private boolean has(int w) {
    return w >= 0 && w < words.size();
  }

  private boolean isThere(int w) {
    return has(w) && words.get(w).there;
  }

  int drop(int w) {
    if (!has(w)) {
      return NUMBER;
    }
    if (!isThere(w)) {
      return STATE;
    }
    words.get(w).there = false;
    pairs.keySet().removeIf(pair -> pair.contains(w));
    return 1;
  }

  int count(int w, int count) {
    if (!has(w) || count < 1 || count > 1000000) {
      return NUMBER;
    }
    if (!isThere(w)) {
      return STATE;
    }
    words.get(w).count = count;
    return 1;
  }

  int pair(int ahead, int behind, int count) {
    if (!has(ahead) || !has(behind) || count < 0 || count > 1000000) {
      return NUMBER;
    }
    if (!isThere(ahead) || !isThere(behind)) {
      return STATE;
    }
    if (!pairs.containsKey(List.of(ahead, behind)) && pairs.size() == 150) {
      return FULL;
    }
    if (count == 0) {
      pairs.remove(List.of(ahead, behind));
    } else {
      pairs.put(List.of(ahead, behind), count);
    }
    return 1;
  }

  int word(int w, int what) {
    if (!has(w)) {
      return -1;
    }
    Entry entry = words.get(w);
    if (what >= 10) {
      return what - 10 < entry.letters.length() ? entry.letters.charAt(what - 10) - 'a' : -1;
    }
    switch (what) {
      case 0: return entry.letters.length();
      case 1: return entry.count;
      case 2: return entry.use;
      case 3: return entry.there ? 1 : 0;
      case 4: return entry.there ? rate(w, latest()) : 0;
      default: return -1;
    }
  }

  private int latest() {
    if (text.isEmpty() || !isThere(text.get(text.size() - 1))) {
      return -1;
    }
    return text.get(text.size() - 1);
  }

  private int rate(int w, int latest) {
    float c = latest < 0 ? 0 : pairs.getOrDefault(List.of(latest, w), 0);
    float own = words.get(w).count * (float) (100 - share);
    float weight = (own + c * (float) share) / 100f;
    return (int) (weight * 100f);
  }

  int paired(int ahead, int behind) {
    if (!has(ahead) || !has(behind)) {
      return -1;
    }
    return pairs.getOrDefault(List.of(ahead, behind), 0);
  }

  int find() {
    for (int w = 0; w < words.size(); w++) {
      if (isThere(w) && words.get(w).letters.equals(spelt)) {
        return w;
      }
    }
    return -1;
  }

  int many(int what) {
    switch (what) {
      case 0: return words.size();
      case 1: return (int) words.stream().filter(entry -> entry.there).count();
      case 2: return pairs.size();
      case 3: return spelt.length();
      case 4: return pressed.length();
      case 5: return text.size();
      case 6: return newcomers.size();
      case 7: return clock;
      case 8: return share;
      default: return -1;
    }
  }

  int share(int newShare) {
    if (newShare < 0 || newShare > 100) {
      return NUMBER;
    }
    share = newShare;
    return 1;
  }

  int price(int slip, int price) {
    if (slip < 0 || slip > 2 || price < 0 || price > 100000) {
      return NUMBER;
    }
    prices[slip] = price;
    return 1;
  }

  // ---- pressing

  int press(int key) {
    if (key < 1 || key > 9) {
      return NUMBER;
    }
    if (pressed.length() == 12) {
      return FULL;
    }
    pressed += key;
    return pressed.length();
  }

  int back() {
    if (pressed.isEmpty()) {
      return STATE;
    }
    pressed = pressed.substring(0, pressed.length() - 1);
    return pressed.length();
  }

  private String keys(int w, int kind) {
    String keys = "";
    for (char letter : words.get(w).letters.toCharArray()) {
      String key = "" + deal[letter - 'a'];
      if (kind != 2 || !keys.endsWith(key)) {
        keys += key;
      }
    }
    return keys;
  }

  /** All rows of keys that come from a row by one slip, each with its least price. */
  private Map<String, Integer> slipsOf(String row) {
    Map<String, Integer> slips = new HashMap<>();
    for (int p = 0; p < row.length(); p++) {
      for (int key = 1; key <= 9; key++) {
        if (beside(key, row.charAt(p) - '0')) {
          slips.merge(row.substring(0, p) + key + row.substring(p + 1), prices[0], Math::min);
        }
      }
      if (p > 0 && row.charAt(p) == row.charAt(p - 1)) {
        slips.merge(row.substring(0, p) + row.substring(p + 1), prices[2], Math::min);
      }
    }
    for (int p = 0; p <= row.length(); p++) {
      for (int key = 1; key <= 9; key++) {
        slips.merge(row.substring(0, p) + key + row.substring(p), prices[1], Math::min);
      }
    }
    return slips;
  }

  /** Offers of a row, each word with its price, in no order. */
  private Map<Integer, Integer> pricesOf(String row, int kind, int limit) {
    Map<String, Integer> slips = kind == 3 ? Map.of() : slipsOf(row);
    Map<Integer, Integer> found = new TreeMap<>();
    for (int w = 0; w < words.size(); w++) {
      if (isThere(w)) {
        String keys = keys(w, kind);
        boolean met = kind == 3 ? !row.isEmpty() && keys.startsWith(row) : keys.equals(row);
        if (met) {
          found.put(w, 0);
        } else if (slips.containsKey(keys) && slips.get(keys) <= limit) {
          found.put(w, slips.get(keys));
        }
      }
    }
    return found;
  }

  private List<Integer> offersOf(String row, int kind, int limit, int latest) {
    Map<Integer, Integer> asked = pricesOf(row, kind, limit);
    List<Integer> found = new ArrayList<>(asked.keySet());
    found.sort((v, w) -> {
      int worthV = rate(v, latest) - asked.get(v);
      int worthW = rate(w, latest) - asked.get(w);
      return worthV != worthW ? Integer.compare(worthW, worthV)
          : words.get(v).letters.compareTo(words.get(w).letters);
    });
    return found;
  }

  int offers(int kind, int limit) {
    if (kind < 0 || kind > 3) {
      return NUMBER;
    }
    return kind == 0 ? KIND : offersOf(pressed, kind, limit, latest()).size();
  }

  int offer(int kind, int limit, int i) {
    if (kind < 1 || kind > 3) {
      return -1;
    }
    List<Integer> found = offersOf(pressed, kind, limit, latest());
    return i >= 0 && i < found.size() ? found.get(i) : -1;
  }

  int priced(int kind, int w) {
    if (!has(w) || kind < 0 || kind > 3) {
      return -2;
    }
    return kind == 0 ? KIND : pricesOf(pressed, kind, 100000).getOrDefault(w, -1);
  }

  int take(int kind, int limit, int i) {
    if (kind < 0 || kind > 3) {
      return NUMBER;
    }
    if (kind == 0) {
      return KIND;
    }
    int w = offer(kind, limit, i);
    if (w < 0) {
      return NONE;
    }
    if (text.size() == 60) {
      return FULL;
    }
    pressed = "";
    return learn(w);
  }

  private int learn(int w) {
    Entry entry = words.get(w);
    entry.count = Math.min(1000000, entry.count + 1);
    int latest = latest();
    if (latest >= 0 && (pairs.containsKey(List.of(latest, w)) || pairs.size() < 150)) {
      pairs.put(List.of(latest, w), Math.min(1000000, paired(latest, w) + 1));
    }
    entry.use = ++clock;
    text.add(w);
    return w;
  }

  int third() {
    if (spelt.isEmpty()) {
      return STATE;
    }
    int known = find();
    int times = newcomers.getOrDefault(spelt, 0) + 1;
    if ((known >= 0 || times == 3) && text.size() == 60) {
      return FULL;
    }
    if (known < 0 && times == 3 && words.size() == 80) {
      return FULL;
    }
    if (known >= 0) {
      spelt = "";
      return learn(known);
    }
    newcomers.remove(spelt);
    if (times == 3) {
      return learn(come(2));
    }
    newcomers.put(spelt, times);
    if (newcomers.size() == 9) {
      newcomers.remove(newcomers.keySet().iterator().next());
    }
    spelt = "";
    return 100 + times;
  }

  int newcomer() {
    return newcomers.getOrDefault(spelt, 0);
  }

  int put(int w) {
    if (!has(w)) {
      return NUMBER;
    }
    if (!isThere(w)) {
      return STATE;
    }
    if (text.size() == 60) {
      return FULL;
    }
    text.add(w);
    return text.size();
  }

  int wipe() {
    int had = text.size();
    text.clear();
    return had;
  }

  int text(int i) {
    return i >= 0 && i < text.size() ? text.get(i) : -1;
  }

  // ---- presses

  int cost(int w, int kind) {
    if (!has(w) || kind < 0 || kind > 3) {
      return NUMBER;
    }
    return isThere(w) ? presses(w, kind, latest()) : STATE;
  }

  private int presses(int w, int kind, int latest) {
    if (kind == 0) {
      return tapPresses(words.get(w).letters, deal);
    }
    String keys = keys(w, kind);
    for (int size = 1; kind == 3 && size <= keys.length(); size++) {
      List<Integer> found = offersOf(keys.substring(0, size), 3, -1, latest);
      if (found.get(0) == w) {
        return size + 1;
      }
    }
    int asGuess = kind == 3 ? 1 : kind;
    return keys.length() + offersOf(keys, asGuess, -1, latest).indexOf(w) + 1;
  }

  private static int tapPresses(String letters, int[] deal) {
    int sum = 1;
    for (int i = 0; i < letters.length(); i++) {
      int letter = letters.charAt(i) - 'a';
      sum += position(letter, deal);
      if (i > 0 && deal[letters.charAt(i - 1) - 'a'] == deal[letter]) {
        sum++;
      }
    }
    return sum;
  }

  /** The least spent behind its row of kinds; of equal ones the first that is tried is the least row. */
  private int[] plans() {
    int size = text.size();
    int[][] table = new int[size][4];
    for (int i = 0; i < size; i++) {
      for (int kind = 0; kind < 4; kind++) {
        table[i][kind] = presses(text.get(i), kind, i == 0 ? -1 : text.get(i - 1));
      }
    }
    return size <= 7 ? planByTrying(table, 0, 0) : planByPrefixes(table);
  }

  private static int[] planByTrying(int[][] table, int i, int ahead) {
    int[] least = null;
    if (i == table.length) {
      return new int[1];
    }
    for (int kind = 0; kind < 4; kind++) {
      int[] rest = planByTrying(table, i + 1, kind);
      int sum = table[i][kind] + (kind == ahead ? 0 : 1) + rest[0];
      if (least == null || sum < least[0]) {
        least = new int[rest.length + 1];
        least[0] = sum;
        least[1] = kind;
        System.arraycopy(rest, 1, least, 2, rest.length - 1);
      }
    }
    return least;
  }

  /** For long texts: for each last kind the best row of kinds up to there, kept whole. */
  private static int[] planByPrefixes(int[][] table) {
    List<int[]> rows = new ArrayList<>();
    rows.add(new int[1]);
    for (int i = 0; i < table.length; i++) {
      List<int[]> next = new ArrayList<>();
      for (int kind = 0; kind < 4; kind++) {
        int[] least = null;
        for (int[] row : rows) {
          int ahead = i == 0 ? 0 : row[i];
          int[] tried = Arrays.copyOf(row, row.length + 1);
          tried[i + 1] = kind;
          tried[0] += table[i][kind] + (kind == ahead ? 0 : 1);
          if (least == null || Arrays.compare(tried, least) < 0) {
            least = tried;
          }
        }
        next.add(least);
      }
      rows = next;
    }
    return rows.stream().min(Arrays::compare).get();
  }

  private boolean textStands() {
    return !text.isEmpty() && text.stream().allMatch(this::isThere);
  }

  int fewest() {
    return textStands() ? plans()[0] : STATE;
  }

  int plan(int i) {
    return textStands() && i >= 0 && i < text.size() ? plans()[1 + i] : -1;
  }

  int taps() {
    return tapsBy(deal);
  }

  private int tapsBy(int[] someDeal) {
    int sum = 0;
    for (int w : text) {
      sum += isThere(w) ? tapPresses(words.get(w).letters, someDeal) : 0;
    }
    return sum;
  }

  /** There are 1,081,575 such deals, so this is asked for seldom. */
  int best() {
    int[] found = new int[26];
    int least = bestFrom(0, 1, new int[26], Integer.MAX_VALUE, found, counted());
    System.arraycopy(found, 0, deal, 0, 26);
    return least;
  }

  private Map<String, Integer> counted() {
    Map<String, Integer> counts = new TreeMap<>();
    for (int w : text) {
      if (isThere(w)) {
        counts.merge(words.get(w).letters, 1, Integer::sum);
      }
    }
    return counts;
  }

  /** The shorter stretches are tried first, and a later deal must be better to be kept. */
  private int bestFrom(int first, int key, int[] tried, int least, int[] found, Map<String, Integer> counts) {
    if (key == 9) {
      Arrays.fill(tried, first, 26, 9);
      int sum = 0;
      for (Map.Entry<String, Integer> entry : counts.entrySet()) {
        sum += entry.getValue() * tapPresses(entry.getKey(), tried);
      }
      if (sum < least) {
        System.arraycopy(tried, 0, found, 0, 26);
      }
      return Math.min(sum, least);
    }
    for (int end = first + 1; end <= 17 + key; end++) {
      Arrays.fill(tried, first, end, key);
      least = bestFrom(end, key + 1, tried, least, found, counts);
    }
    return least;
  }

  int swap() {
    int before = taps();
    int least = before;
    int[] found = deal.clone();
    for (int a = 0; a < 26; a++) {
      for (int b = a + 1; b < 26; b++) {
        int[] tried = deal.clone();
        tried[a] = deal[b];
        tried[b] = deal[a];
        int sum = tapsBy(tried);
        if (sum < least) {
          least = sum;
          found = tried;
        }
      }
    }
    System.arraycopy(found, 0, deal, 0, 26);
    return before - least;
  }

  private List<Integer> clashers() {
    Map<String, List<Integer>> byKeys = new LinkedHashMap<>();
    for (int w = 0; w < words.size(); w++) {
      if (isThere(w)) {
        byKeys.computeIfAbsent(keys(w, 1), keys -> new ArrayList<>()).add(w);
      }
    }
    List<Integer> most = List.of();
    for (List<Integer> some : byKeys.values()) {
      most = some.size() > most.size() ? some : most;
    }
    return most;
  }

  int clash() {
    return clashers().size();
  }

  int clashing(int i) {
    List<Integer> most = clashers();
    return i >= 0 && i < most.size() ? most.get(i) : -1;
  }

  int clashes() {
    int some = 0;
    for (int v = 0; v < words.size(); v++) {
      for (int w = v + 1; w < words.size(); w++) {
        some += isThere(v) && isThere(w) && keys(v, 1).equals(keys(w, 1)) ? 1 : 0;
      }
    }
    return some;
  }
}

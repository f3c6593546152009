import java.util.Arrays;

/** A writer on nine keys; DOC.md says in numbered promises what each call answers. */
public final class NineKeys {
    public static final int NUMBER = -1;
    public static final int FULL = -2;
    public static final int TWICE = -3;
    public static final int STATE = -4;
    public static final int KIND = -5;
    public static final int NONE = -6;

    private static final int LETTERS = 26;
    private static final int KEYS = 9;
    private static final int KEYS_IN_A_ROW = 3;

    private static final int TAP = 0;
    private static final int GUESS = 1;
    private static final int SLIDE = 2;
    private static final int SHORTER = 3;
    private static final int KINDS = 4;

    private static final int SLIP_BESIDE = 0;
    private static final int SLIP_LEFT_OUT = 1;
    private static final int SLIP_TWICE = 2;
    private static final int SLIPS = 3;

    private static final int MOST_SPELT = 10;
    private static final int MOST_TOLD = 5;
    private static final int MOST_PRESSED = 12;
    private static final int MOST_TEXT = 60;
    private static final int MOST_WORDS = 80;
    private static final int MOST_THERE = 40;
    private static final int MOST_PAIRS = 150;
    private static final int MOST_NEWCOMERS = 8;
    private static final int MOST_COUNT = 1000000;
    private static final int MOST_PRICE = 100000;
    private static final int MOST_SHARE = 100;
    private static final int FIRST_SHARE = 30;

    private static final int LET_IN_AT = 3;
    private static final int LET_IN_WITH = 2;
    private static final int NOT_YET = 100;
    private static final int FIRST_LETTER_ASKED = 10;
    private static final int NUMBER_IN_PRICED = -2;

    private final Keyboard keyboard = new Keyboard();
    private final Book book = new Book();
    private final Newcomers newcomers = new Newcomers();
    private final Shelf shelf = new Shelf(book, keyboard);
    private final Plan spending = new Plan();
    private final TapTable tapTable = new TapTable();
    private final Row spelt = new Row(MOST_SPELT);
    private final Row pressed = new Row(MOST_PRESSED);
    private final Row written = new Row(MOST_TEXT);
    private final int[] told = new int[MOST_TOLD];
    private final int[] presses = new int[KINDS];

    public NineKeys() {
    }

    // ---- letters and keys

    public int deal(int letter, int key) {
        if (!isLetter(letter) || !isKey(key)) {
            return NUMBER;
        }
        return keyboard.give(letter, key) ? 1 : 0;
    }

    public int letter(int letter, int what) {
        if (!isLetter(letter)) {
            return NUMBER;
        }
        switch (what) {
            case 0:
                return keyboard.keyOf(letter);
            case 1:
                return keyboard.positionOf(letter);
            default:
                return NUMBER;
        }
    }

    public boolean beside(int a, int b) {
        return areBeside(a, b);
    }

    // ---- words

    public int spell(int a, int b, int c, int d, int e) {
        told[0] = a;
        told[1] = b;
        told[2] = c;
        told[3] = d;
        told[4] = e;
        int some = 0;
        while (some < told.length && told[some] != -1) {
            if (!isLetter(told[some])) {
                return NUMBER;
            }
            some++;
        }
        if (spelt.size() + some > MOST_SPELT) {
            return FULL;
        }
        for (int i = 0; i < some; i++) {
            spelt.push(told[i]);
        }
        return spelt.size();
    }

    public int unspell() {
        return spelt.clear();
    }

    public int add(int count) {
        if (!isCount(count)) {
            return NUMBER;
        }
        if (spelt.isEmpty()) {
            return STATE;
        }
        if (book.numberOf(spelt) >= 0) {
            return TWICE;
        }
        if (book.isFull()) {
            return FULL;
        }
        int w = book.enter(spelt, count);
        spelt.clear();
        return w;
    }

    public int drop(int w) {
        if (!book.has(w)) {
            return NUMBER;
        }
        if (!book.isThere(w)) {
            return STATE;
        }
        book.dismiss(w);
        return 1;
    }

    public int count(int w, int count) {
        Word word = book.at(w);
        if (word == null || !isCount(count)) {
            return NUMBER;
        }
        if (!word.there) {
            return STATE;
        }
        word.count = count;
        return 1;
    }

    public int pair(int ahead, int behind, int count) {
        if (!book.has(ahead) || !book.has(behind) || count < 0 || count > MOST_COUNT) {
            return NUMBER;
        }
        if (!book.isThere(ahead) || !book.isThere(behind)) {
            return STATE;
        }
        if (!book.pairs().haveRoomFor(ahead, behind)) {
            return FULL;
        }
        book.pairs().tell(ahead, behind, count);
        return 1;
    }

    public int word(int w, int what) {
        Word word = book.at(w);
        if (word == null) {
            return -1;
        }
        switch (what) {
            case 0:
                return word.letters.size();
            case 1:
                return word.count;
            case 2:
                return word.use;
            case 3:
                return word.there ? 1 : 0;
            case 4:
                return word.there ? rateNow(w) : 0;
            default:
                return what < FIRST_LETTER_ASKED ? -1 : word.letters.at(what - FIRST_LETTER_ASKED);
        }
    }

    public int paired(int ahead, int behind) {
        if (!book.has(ahead) || !book.has(behind)) {
            return -1;
        }
        return book.pairs().countOf(ahead, behind);
    }

    public int find() {
        return book.numberOf(spelt);
    }

    public int many(int what) {
        switch (what) {
            case 0:
                return book.size();
            case 1:
                return book.sizeThere();
            case 2:
                return book.pairs().size();
            case 3:
                return spelt.size();
            case 4:
                return pressed.size();
            case 5:
                return written.size();
            case 6:
                return newcomers.size();
            case 7:
                return book.clock();
            case 8:
                return shelf.shareNow();
            default:
                return -1;
        }
    }

    public int share(int share) {
        if (share < 0 || share > MOST_SHARE) {
            return NUMBER;
        }
        shelf.setShare(share);
        return 1;
    }

    public int price(int slip, int price) {
        if (slip < 0 || slip >= SLIPS || price < 0 || price > MOST_PRICE) {
            return NUMBER;
        }
        shelf.setPrice(slip, price);
        return 1;
    }

    // ---- pressing

    public int press(int key) {
        if (!isKey(key)) {
            return NUMBER;
        }
        if (pressed.isFull()) {
            return FULL;
        }
        pressed.push(key);
        return pressed.size();
    }

    public int back() {
        if (pressed.isEmpty()) {
            return STATE;
        }
        pressed.pop();
        return pressed.size();
    }

    public int offers(int kind, int limit) {
        int refusal = refusalOf(kind);
        if (refusal < 0) {
            return refusal;
        }
        layOffers(kind, limit);
        return shelf.size();
    }

    public int offer(int kind, int limit, int i) {
        if (refusalOf(kind) < 0) {
            return -1;
        }
        layOffers(kind, limit);
        return shelf.offerAt(i);
    }

    public int priced(int kind, int w) {
        if (!book.has(w) || !isKind(kind)) {
            return NUMBER_IN_PRICED;
        }
        if (kind == TAP) {
            return KIND;
        }
        if (!book.isThere(w)) {
            return -1;
        }
        shelf.readKeys();
        return shelf.askedFor(w, KeyRow.pack(pressed), kind, MOST_PRICE);
    }

    public int take(int kind, int limit, int i) {
        int refusal = refusalOf(kind);
        if (refusal < 0) {
            return refusal;
        }
        layOffers(kind, limit);
        int w = shelf.offerAt(i);
        if (w < 0) {
            return NONE;
        }
        if (written.isFull()) {
            return FULL;
        }
        learn(w);
        pressed.clear();
        return w;
    }

    public int third() {
        if (spelt.isEmpty()) {
            return STATE;
        }
        int w = book.numberOf(spelt);
        boolean comes = w < 0 && newcomers.timesOf(spelt) + 1 >= LET_IN_AT;
        boolean learnt = w >= 0 || comes;
        if (learnt && written.isFull() || comes && book.isFull()) {
            return FULL;
        }
        if (comes) {
            newcomers.forget(spelt);
            w = book.enter(spelt, LET_IN_WITH);
        }
        int answer = w;
        if (learnt) {
            learn(w);
        } else {
            answer = NOT_YET + newcomers.countOnce(spelt);
        }
        spelt.clear();
        return answer;
    }

    public int newcomer() {
        return newcomers.timesOf(spelt);
    }

    public int put(int w) {
        if (!book.has(w)) {
            return NUMBER;
        }
        if (!book.isThere(w)) {
            return STATE;
        }
        if (written.isFull()) {
            return FULL;
        }
        written.push(w);
        return written.size();
    }

    public int wipe() {
        return written.clear();
    }

    public int text(int i) {
        return written.at(i);
    }

    // ---- presses

    public int cost(int w, int kind) {
        if (!book.has(w) || !isKind(kind)) {
            return NUMBER;
        }
        if (!book.isThere(w)) {
            return STATE;
        }
        shelf.readKeys();
        shelf.weigh(latest());
        shelf.countPresses(w, presses);
        return presses[kind];
    }

    public int fewest() {
        if (!textStands()) {
            return STATE;
        }
        spending.fill(written, shelf);
        return spending.least();
    }

    public int plan(int i) {
        if (!textStands() || i < 0 || i >= written.size()) {
            return -1;
        }
        spending.fill(written, shelf);
        return spending.kindAt(i);
    }

    public int taps() {
        int sum = 0;
        for (int i = 0; i < written.size(); i++) {
            Word word = book.at(written.at(i));
            if (word != null && word.there) {
                sum += keyboard.tapPresses(word.letters);
            }
        }
        return sum;
    }

    public int best() {
        tapTable.read(written, book);
        return tapTable.dealStretches(keyboard);
    }

    public int swap() {
        tapTable.read(written, book);
        return tapTable.exchangeTwo(keyboard);
    }

    public int clash() {
        shelf.readKeys();
        return shelf.sharersOf(shelf.mostShared());
    }

    public int clashing(int i) {
        shelf.readKeys();
        return shelf.sharerAt(shelf.mostShared(), i);
    }

    public int clashes() {
        shelf.readKeys();
        return shelf.sharingPairs();
    }

    // ---- what several calls need

    private static boolean isLetter(int letter) {
        return letter >= 0 && letter < LETTERS;
    }

    private static boolean isKey(int key) {
        return key >= 1 && key <= KEYS;
    }

    private static boolean isKind(int kind) {
        return kind >= 0 && kind < KINDS;
    }

    private static boolean isCount(int count) {
        return count >= 1 && count <= MOST_COUNT;
    }

    private static boolean areBeside(int a, int b) {
        int low = a < b ? a : b;
        int high = a < b ? b : a;
        if (low < 1 || high > KEYS) {
            return false;
        }
        boolean inOneRow = (low - 1) / KEYS_IN_A_ROW == (high - 1) / KEYS_IN_A_ROW;
        return high - low == KEYS_IN_A_ROW || inOneRow && high - low == 1;
    }

    /** Why there are no offers by a kind; 0 if there may be some. */
    private static int refusalOf(int kind) {
        if (!isKind(kind)) {
            return NUMBER;
        }
        return kind == TAP ? KIND : 0;
    }

    /** The last word of the text if it is there, else -1. */
    private int latest() {
        int w = written.at(written.size() - 1);
        return book.isThere(w) ? w : -1;
    }

    private int rateNow(int w) {
        shelf.weigh(latest());
        return shelf.rateOf(w);
    }

    private void layOffers(int kind, int limit) {
        shelf.readKeys();
        shelf.weigh(latest());
        shelf.layOut(KeyRow.pack(pressed), kind, limit);
    }

    private void learn(int w) {
        book.learn(w, latest());
        written.push(w);
    }

    private boolean textStands() {
        for (int i = 0; i < written.size(); i++) {
            if (!book.isThere(written.at(i))) {
                return false;
            }
        }
        return !written.isEmpty();
    }

    /** Numbers in a row, none below 0; it holds as many as it was made for. */
    private static final class Row {
        private final int[] items;
        private int size;

        Row(int room) {
            items = new int[Math.max(room, 0)];
        }

        int size() {
            return size;
        }

        boolean isEmpty() {
            return size == 0;
        }

        boolean isFull() {
            return size >= items.length;
        }

        /** Item i, or -1 if there is none such. */
        int at(int i) {
            return i >= 0 && i < size ? items[i] : -1;
        }

        void push(int item) {
            if (size < items.length) {
                items[size] = item;
                size++;
            }
        }

        void pop() {
            if (size > 0) {
                size--;
            }
        }

        /** Makes it empty: how many items it had. */
        int clear() {
            int had = size;
            size = 0;
            return had;
        }

        void becomeLike(Row other) {
            size = 0;
            for (int i = 0; i < other.size; i++) {
                push(other.items[i]);
            }
        }

        boolean isLike(Row other) {
            if (size != other.size) {
                return false;
            }
            for (int i = 0; i < size; i++) {
                if (items[i] != other.items[i]) {
                    return false;
                }
            }
            return true;
        }

        boolean isAheadOf(Row other) {
            for (int i = 0; i < size && i < other.size; i++) {
                if (items[i] != other.items[i]) {
                    return items[i] < other.items[i];
                }
            }
            return size < other.size;
        }
    }

    /** The deal: which key each letter has. */
    private static final class Keyboard {
        private final int[] keys = new int[LETTERS];

        Keyboard() {
            for (int l = 0; l < LETTERS; l++) {
                keys[l] = 1 + l / 3;
            }
        }

        /** The key of a letter, or 0 if there is no such letter. */
        int keyOf(int letter) {
            return isLetter(letter) ? keys[letter] : 0;
        }

        /** Whether that changes something. */
        boolean give(int letter, int key) {
            if (!isLetter(letter) || keys[letter] == key) {
                return false;
            }
            keys[letter] = key;
            return true;
        }

        void exchange(int a, int b) {
            int key = keyOf(a);
            give(a, keyOf(b));
            give(b, key);
        }

        int positionOf(int letter) {
            int key = keyOf(letter);
            int position = 0;
            for (int l = 0; l <= letter && l < LETTERS; l++) {
                if (keys[l] == key) {
                    position++;
                }
            }
            return position;
        }

        int tapPresses(Row letters) {
            int sum = 1;
            int keyAhead = 0;
            for (int i = 0; i < letters.size(); i++) {
                int key = keyOf(letters.at(i));
                sum += positionOf(letters.at(i));
                if (key == keyAhead) {
                    sum++;
                }
                keyAhead = key;
            }
            return sum;
        }

        long guessKeys(Row letters) {
            long row = 0;
            for (int i = 0; i < letters.size(); i++) {
                row = KeyRow.join(row, keyOf(letters.at(i)));
            }
            return row;
        }

        long slideKeys(Row letters) {
            long row = 0;
            int keyAhead = 0;
            for (int i = 0; i < letters.size(); i++) {
                int key = keyOf(letters.at(i));
                if (key != keyAhead) {
                    row = KeyRow.join(row, key);
                }
                keyAhead = key;
            }
            return row;
        }
    }

    /**
     * Rows of keys packed into a long, four bits a key, the last key lowest: no key is 0, so a row tells
     * its own size, two rows are compared at once, and no call has to make an array for one.
     */
    private static final class KeyRow {
        private static final int BITS = 4;
        private static final long ONE_KEY = 15;
        private static final int MOST = 16;

        static long join(long row, int key) {
            return row << BITS | key;
        }

        static long pack(Row keys) {
            long row = 0;
            for (int i = 0; i < keys.size(); i++) {
                row = join(row, keys.at(i));
            }
            return row;
        }

        static int sizeOf(long row) {
            int size = 0;
            while (size < MOST && row >>> BITS * size != 0) {
                size++;
            }
            return size;
        }

        private static int keyAt(long row, int fromEnd) {
            return (int) (row >>> BITS * fromEnd & ONE_KEY);
        }

        private static long without(long row, int fromEnd) {
            int low = BITS * fromEnd;
            long behind = row & (1L << low) - 1;
            return row >>> low >>> BITS << low | behind;
        }

        /** How many keys two rows have in common from the first on. */
        static int sharedStart(long a, long b) {
            int sizeA = sizeOf(a);
            int sizeB = sizeOf(b);
            int shared = Math.min(sizeA, sizeB);
            long startA = a >>> BITS * (sizeA - shared);
            long startB = b >>> BITS * (sizeB - shared);
            while (shared > 0 && startA != startB) {
                startA >>>= BITS;
                startB >>>= BITS;
                shared--;
            }
            return shared;
        }

        static boolean beginsWith(long keys, long row) {
            return sharedStart(keys, row) == sizeOf(row);
        }

        /** The slip by which keys come from a row, or -1: their sizes leave one slip at most. */
        static int slipBetween(long row, long keys) {
            int longer = sizeOf(row) - sizeOf(keys);
            if (longer == 0 && comeByBeside(row, keys)) {
                return SLIP_BESIDE;
            }
            if (longer == -1 && comeByLeftOut(row, keys)) {
                return SLIP_LEFT_OUT;
            }
            if (longer == 1 && comeByTwice(row, keys)) {
                return SLIP_TWICE;
            }
            return -1;
        }

        private static boolean comeByBeside(long row, long keys) {
            int size = sizeOf(row);
            int unlike = -1;
            for (int p = 0; p < size; p++) {
                if (keyAt(row, p) != keyAt(keys, p)) {
                    if (unlike >= 0) {
                        return false;
                    }
                    unlike = p;
                }
            }
            return unlike >= 0 && areBeside(keyAt(row, unlike), keyAt(keys, unlike));
        }

        private static boolean comeByLeftOut(long row, long keys) {
            int size = sizeOf(keys);
            for (int p = 0; p < size; p++) {
                if (without(keys, p) == row) {
                    return true;
                }
            }
            return false;
        }

        private static boolean comeByTwice(long row, long keys) {
            int size = sizeOf(row);
            for (int p = 0; p + 1 < size; p++) {
                if (keyAt(row, p) == keyAt(row, p + 1) && without(row, p) == keys) {
                    return true;
                }
            }
            return false;
        }
    }

    /** A word that came; it keeps what it was when it is gone. */
    private static final class Word {
        private final Row letters;
        private int count;
        private int use;
        private boolean there = true;

        Word(Row spelt, int count, int use) {
            letters = new Row(spelt.size());
            letters.becomeLike(spelt);
            this.count = count;
            this.use = use;
        }
    }

    /** The counts of pairs of words; a pair that isn't among them has the count 0. */
    private static final class Pairs {
        private final int[] aheads = new int[MOST_PAIRS];
        private final int[] behinds = new int[MOST_PAIRS];
        private final int[] counts = new int[MOST_PAIRS];
        private int size;

        int size() {
            return size;
        }

        private int placeOf(int ahead, int behind) {
            for (int p = 0; p < size; p++) {
                if (aheads[p] == ahead && behinds[p] == behind) {
                    return p;
                }
            }
            return -1;
        }

        int countOf(int ahead, int behind) {
            int p = placeOf(ahead, behind);
            return p < 0 ? 0 : counts[p];
        }

        boolean haveRoomFor(int ahead, int behind) {
            return size < MOST_PAIRS || placeOf(ahead, behind) >= 0;
        }

        /** Tells a count; one for which there is no room is left untold. */
        void tell(int ahead, int behind, int count) {
            int p = placeOf(ahead, behind);
            if (p >= 0 && count > 0) {
                counts[p] = count;
            } else if (p >= 0) {
                removeAt(p);
            } else if (count > 0 && size < MOST_PAIRS) {
                aheads[size] = ahead;
                behinds[size] = behind;
                counts[size] = count;
                size++;
            }
        }

        /** The last one takes its place, for their order says nothing. */
        private void removeAt(int p) {
            if (p < 0 || p >= size) {
                return;
            }
            size--;
            aheads[p] = aheads[size];
            behinds[p] = behinds[size];
            counts[p] = counts[size];
        }

        void forget(int w) {
            for (int p = size - 1; p >= 0; p--) {
                if (aheads[p] == w || behinds[p] == w) {
                    removeAt(p);
                }
            }
        }

        /** Writes to each word's place the count of its pair with the one ahead. */
        void countsBehind(int ahead, int[] into) {
            Arrays.fill(into, 0);
            for (int p = 0; p < size; p++) {
                int behind = behinds[p];
                if (aheads[p] == ahead && behind >= 0 && behind < into.length) {
                    into[behind] = counts[p];
                }
            }
        }
    }

    /** All words that came, their pairs, and the clock. */
    private static final class Book {
        private final Word[] words = new Word[MOST_WORDS];
        private final Pairs pairs = new Pairs();
        private int size;
        private int sizeThere;
        private int clock;

        int size() {
            return size;
        }

        int sizeThere() {
            return sizeThere;
        }

        int clock() {
            return clock;
        }

        Pairs pairs() {
            return pairs;
        }

        boolean isFull() {
            return size >= MOST_WORDS;
        }

        boolean has(int w) {
            return w >= 0 && w < size;
        }

        /** A word by its number, or null if there is none such. */
        Word at(int w) {
            return w >= 0 && w < size ? words[w] : null;
        }

        boolean isThere(int w) {
            Word word = at(w);
            return word != null && word.there;
        }

        /** The word that is there and has these letters, or -1. */
        int numberOf(Row letters) {
            for (int w = 0; w < size; w++) {
                Word word = words[w];
                if (word != null && word.there && word.letters.isLike(letters)) {
                    return w;
                }
            }
            return -1;
        }

        /** A word comes, and the longest unused one goes if there is no room: its number, or -1. */
        int enter(Row letters, int count) {
            if (size >= MOST_WORDS) {
                return -1;
            }
            if (sizeThere >= MOST_THERE) {
                dismiss(longestUnused());
            }
            clock++;
            words[size] = new Word(letters, count, clock);
            size++;
            sizeThere++;
            return size - 1;
        }

        private int longestUnused() {
            int found = -1;
            int leastUse = Integer.MAX_VALUE;
            for (int w = 0; w < size; w++) {
                Word word = words[w];
                if (word != null && word.there && word.use < leastUse) {
                    found = w;
                    leastUse = word.use;
                }
            }
            return found;
        }

        void dismiss(int w) {
            Word word = at(w);
            if (word != null && word.there) {
                word.there = false;
                sizeThere--;
                pairs.forget(w);
            }
        }

        /** Learns a word behind the latest one (-1: there is none). */
        void learn(int w, int latest) {
            Word word = at(w);
            if (word == null) {
                return;
            }
            word.count = Math.min(word.count + 1, MOST_COUNT);
            if (latest >= 0) {
                pairs.tell(latest, w, Math.min(pairs.countOf(latest, w) + 1, MOST_COUNT));
            }
            clock++;
            word.use = clock;
        }
    }

    /** Rows of letters that were written but are no words yet. */
    private static final class Newcomers {
        private final Row[] rows = new Row[MOST_NEWCOMERS];
        private final int[] times = new int[MOST_NEWCOMERS];
        private final int[] stamps = new int[MOST_NEWCOMERS];
        private int stamp;

        Newcomers() {
            for (int n = 0; n < MOST_NEWCOMERS; n++) {
                rows[n] = new Row(MOST_SPELT);
            }
        }

        int size() {
            int some = 0;
            for (int n = 0; n < MOST_NEWCOMERS; n++) {
                if (times[n] > 0) {
                    some++;
                }
            }
            return some;
        }

        private int placeOf(Row letters) {
            for (int n = 0; n < MOST_NEWCOMERS; n++) {
                Row row = rows[n];
                if (times[n] > 0 && row != null && row.isLike(letters)) {
                    return n;
                }
            }
            return -1;
        }

        int timesOf(Row letters) {
            int n = placeOf(letters);
            return n < 0 ? 0 : times[n];
        }

        /** Counts letters once more, or for the first time: how often that makes. */
        int countOnce(Row letters) {
            int n = placeOf(letters);
            if (n < 0) {
                n = placeForNew();
                times[n] = 0;
                if (rows[n] != null) {
                    rows[n].becomeLike(letters);
                }
            }
            times[n]++;
            stamp++;
            stamps[n] = stamp;
            return times[n];
        }

        /** A free place, whose stamp is 0, or else that of the one counted longest ago. */
        private int placeForNew() {
            int oldest = 0;
            for (int n = 1; n < MOST_NEWCOMERS; n++) {
                if (stamps[n] < stamps[oldest]) {
                    oldest = n;
                }
            }
            return oldest;
        }

        void forget(Row letters) {
            int n = placeOf(letters);
            if (n >= 0) {
                times[n] = 0;
                stamps[n] = 0;
            }
        }
    }

    /**
     * The words that are there as the keys show them: their packed keys, their rates, and the offers of a
     * row of keys. readKeys and weigh bring these up to date ahead of what is asked of them.
     */
    private static final class Shelf {
        private final Book book;
        private final Keyboard keyboard;
        private final long[] guessKeys = new long[MOST_WORDS];
        private final long[] slideKeys = new long[MOST_WORDS];
        private final int[] rates = new int[MOST_WORDS];
        private final int[] behindLatest = new int[MOST_WORDS];
        private final int[] offered = new int[MOST_THERE];
        private final int[] worths = new int[MOST_THERE];
        private final int[] prices = new int[SLIPS];
        private int size;
        private int share = FIRST_SHARE;

        Shelf(Book book, Keyboard keyboard) {
            this.book = book;
            this.keyboard = keyboard;
            Arrays.fill(prices, MOST_PRICE);
        }

        int shareNow() {
            return share;
        }

        void setShare(int newShare) {
            share = newShare;
        }

        void setPrice(int slip, int newPrice) {
            if (slip >= 0 && slip < SLIPS) {
                prices[slip] = newPrice;
            }
        }

        void readKeys() {
            for (int w = 0; w < book.size() && w < MOST_WORDS; w++) {
                Word word = book.at(w);
                if (word != null && word.there) {
                    guessKeys[w] = keyboard.guessKeys(word.letters);
                    slideKeys[w] = keyboard.slideKeys(word.letters);
                }
            }
        }

        /** Finds the rates of all words that are there, behind the latest one (-1: there is none). */
        void weigh(int latest) {
            book.pairs().countsBehind(latest, behindLatest);
            for (int w = 0; w < book.size() && w < MOST_WORDS; w++) {
                Word word = book.at(w);
                if (word != null && word.there) {
                    float weight = ((float) word.count * (100 - share) + (float) behindLatest[w] * share) / 100;
                    rates[w] = (int) (weight * 100);
                }
            }
        }

        int rateOf(int w) {
            return w >= 0 && w < MOST_WORDS ? rates[w] : 0;
        }

        private boolean standsAhead(int v, int worthV, int w, int worthW) {
            if (worthV != worthW) {
                return worthV > worthW;
            }
            Word wordV = book.at(v);
            Word wordW = book.at(w);
            return wordV != null && wordW != null && wordV.letters.isAheadOf(wordW.letters);
        }

        // ---- offers

        /** The price at which a word that is there is an offer of a row within a limit, or -1. */
        int askedFor(int w, long row, int kind, int limit) {
            if (w < 0 || w >= MOST_WORDS) {
                return -1;
            }
            if (kind == SHORTER) {
                return row != 0 && KeyRow.beginsWith(guessKeys[w], row) ? 0 : -1;
            }
            long keys = kind == SLIDE ? slideKeys[w] : guessKeys[w];
            if (keys == row) {
                return 0;
            }
            int slip = KeyRow.slipBetween(row, keys);
            if (slip < 0 || slip >= SLIPS || prices[slip] > limit) {
                return -1;
            }
            return prices[slip];
        }

        /** Finds the offers of a row in their order. */
        void layOut(long row, int kind, int limit) {
            size = 0;
            for (int w = 0; w < book.size() && w < MOST_WORDS; w++) {
                if (book.isThere(w)) {
                    int asked = askedFor(w, row, kind, limit);
                    if (asked >= 0) {
                        insert(w, rates[w] - asked);
                    }
                }
            }
        }

        private void insert(int w, int worth) {
            if (size >= MOST_THERE) {
                return;
            }
            int p = size;
            while (p > 0 && standsAhead(w, worth, offered[p - 1], worths[p - 1])) {
                offered[p] = offered[p - 1];
                worths[p] = worths[p - 1];
                p--;
            }
            offered[p] = w;
            worths[p] = worth;
            size++;
        }

        int size() {
            return size;
        }

        /** Offer i, or -1 if there is none such. */
        int offerAt(int i) {
            return i >= 0 && i < size ? offered[i] : -1;
        }

        // ---- presses

        /** Writes the presses of a word that is there by each kind to that kind's place. */
        void countPresses(int w, int[] into) {
            Word word = book.at(w);
            if (word == null || into.length < KINDS) {
                return;
            }
            int aheadByGuess = 0;
            int aheadBySlide = 0;
            int startNotFirst = 0;
            for (int v = 0; v < book.size() && v < MOST_WORDS; v++) {
                if (book.isThere(v) && standsAhead(v, rates[v], w, rates[w])) {
                    aheadByGuess += guessKeys[v] == guessKeys[w] ? 1 : 0;
                    aheadBySlide += slideKeys[v] == slideKeys[w] ? 1 : 0;
                    startNotFirst = Math.max(startNotFirst, KeyRow.sharedStart(guessKeys[v], guessKeys[w]));
                }
            }
            int keys = word.letters.size();
            into[TAP] = keyboard.tapPresses(word.letters);
            into[GUESS] = keys + aheadByGuess + 1;
            into[SLIDE] = KeyRow.sizeOf(slideKeys[w]) + aheadBySlide + 1;
            // It is the first offer as soon as no word ahead of it begins with the same keys.
            into[SHORTER] = startNotFirst < keys ? startNotFirst + 1 + 1 : into[GUESS];
        }

        // ---- words with the same keys

        /** How many words that are there have the keys of word w; 0 if w isn't there. */
        int sharersOf(int w) {
            int some = 0;
            for (int v = 0; v < book.size(); v++) {
                if (shareKeys(v, w)) {
                    some++;
                }
            }
            return some;
        }

        private boolean shareKeys(int v, int w) {
            return book.isThere(v) && book.isThere(w) && guessKeys[v] == guessKeys[w];
        }

        /** The least word of those whose keys the most words have, or -1 without words. */
        int mostShared() {
            int found = -1;
            int most = 0;
            for (int w = 0; w < book.size(); w++) {
                int some = book.isThere(w) ? sharersOf(w) : 0;
                if (some > most) {
                    found = w;
                    most = some;
                }
            }
            return found;
        }

        /** Word i, by numbers, of those that have the keys of word w, or -1. */
        int sharerAt(int w, int i) {
            int ahead = 0;
            for (int v = 0; v < book.size(); v++) {
                if (shareKeys(v, w)) {
                    if (ahead == i) {
                        return v;
                    }
                    ahead++;
                }
            }
            return -1;
        }

        int sharingPairs() {
            int some = 0;
            for (int w = 0; w < book.size(); w++) {
                for (int v = 0; v < w; v++) {
                    if (shareKeys(v, w)) {
                        some++;
                    }
                }
            }
            return some;
        }
    }

    /** The least spent of a text, found from its last word to its first. */
    private static final class Plan {
        // For each word and each kind ahead of it: the least kind that spends least from there on.
        private final int[] choices = new int[MOST_TEXT * KINDS];
        private final int[] presses = new int[KINDS];
        // By the kind ahead: the least spent from a word on, and from the next one on.
        private final int[] fromHere = new int[KINDS];
        private final int[] fromNext = new int[KINDS];

        /** All words of the text must be there. */
        void fill(Row text, Shelf shelf) {
            shelf.readKeys();
            Arrays.fill(fromHere, 0);
            for (int i = text.size() - 1; i >= 0; i--) {
                shelf.weigh(text.at(i - 1));
                shelf.countPresses(text.at(i), presses);
                System.arraycopy(fromHere, 0, fromNext, 0, KINDS);
                for (int ahead = 0; ahead < KINDS; ahead++) {
                    choose(i, ahead);
                }
            }
        }

        private void choose(int i, int ahead) {
            int place = i * KINDS + ahead;
            if (place < 0 || place >= choices.length || ahead < 0 || ahead >= KINDS) {
                return;
            }
            int least = Integer.MAX_VALUE;
            for (int kind = 0; kind < KINDS; kind++) {
                int spent = presses[kind] + (kind == ahead ? 0 : 1) + fromNext[kind];
                if (spent < least) {
                    least = spent;
                    choices[place] = kind;
                }
            }
            fromHere[ahead] = least;
        }

        int least() {
            return fromHere[TAP];
        }

        int kindAt(int i) {
            int kind = TAP;
            for (int j = 0; j <= i && j < MOST_TEXT; j++) {
                kind = choices[j * KINDS + kind];
            }
            return kind;
        }
    }

    /** What a text asks of the letters, from which the tap presses of any deal follow. */
    private static final class TapTable {
        private static final int NO_WAY = 1 << 28;

        private final int[] times = new int[LETTERS];
        // [a][b], a not above b: how often the two follow each other, either way round.
        private final int[][] touches = new int[LETTERS][LETTERS];
        private int blanks;
        // [k][a]: the least presses of letters a and above on key k and above, and key k's least stretch for that.
        private final int[][] least = new int[KEYS + 2][LETTERS + 1];
        private final int[][] stretches = new int[KEYS + 2][LETTERS + 1];
        private final int[] keyPresses = new int[KEYS + 1];

        void read(Row text, Book book) {
            blanks = 0;
            Arrays.fill(times, 0);
            for (int a = 0; a < LETTERS; a++) {
                Arrays.fill(touches[a], 0);
            }
            for (int i = 0; i < text.size(); i++) {
                Word word = book.at(text.at(i));
                if (word != null && word.there) {
                    blanks++;
                    readWord(word.letters);
                }
            }
        }

        private void readWord(Row letters) {
            for (int i = 0; i < letters.size(); i++) {
                int letter = letters.at(i);
                int ahead = letters.at(i - 1);
                if (isLetter(letter)) {
                    times[letter]++;
                    if (isLetter(ahead)) {
                        touches[Math.min(ahead, letter)][Math.max(ahead, letter)]++;
                    }
                }
            }
        }

        /** Deals the best stretches: the tap presses of the text by them. */
        int dealStretches(Keyboard keyboard) {
            for (int k = 1; k <= KEYS + 1; k++) {
                Arrays.fill(least[k], NO_WAY);
            }
            least[KEYS + 1][LETTERS] = 0;
            for (int a = LETTERS - 1; a >= 0; a--) {
                tryStretchesFrom(a);
            }
            int a = 0;
            for (int k = 1; k <= KEYS; k++) {
                int end = a >= 0 && a < LETTERS ? a + stretches[k][a] : a;
                for (; a < end && a < LETTERS; a++) {
                    keyboard.give(a, k);
                }
            }
            return blanks + least[1][0];
        }

        /** The shorter stretches are tried first, so that of equal ones the shortest is kept. */
        private void tryStretchesFrom(int a) {
            int inStretch = 0;
            for (int b = a; b < LETTERS; b++) {
                inStretch += times[b] * (b - a + 1);
                for (int c = a; c <= b; c++) {
                    inStretch += touches[c][b];
                }
                for (int k = 1; k <= KEYS; k++) {
                    int sum = inStretch + least[k + 1][b + 1];
                    if (sum < least[k][a]) {
                        least[k][a] = sum;
                        stretches[k][a] = b - a + 1;
                    }
                }
            }
        }

        /** Exchanges the keys of the two letters for which that saves most: how many presses, 0 if none. */
        int exchangeTwo(Keyboard keyboard) {
            for (int k = 1; k <= KEYS; k++) {
                keyPresses[k] = pressesOn(k, keyboard);
            }
            int most = 0;
            int bestA = 0;
            int bestB = 0;
            for (int a = 0; a < LETTERS; a++) {
                for (int b = a + 1; b < LETTERS; b++) {
                    int saved = savedBy(a, b, keyboard);
                    if (saved > most) {
                        most = saved;
                        bestA = a;
                        bestB = b;
                    }
                }
            }
            if (most > 0) {
                keyboard.exchange(bestA, bestB);
            }
            return most;
        }

        /** Only the two letters' own keys are pressed more or less often than ahead of the exchange. */
        private int savedBy(int a, int b, Keyboard keyboard) {
            int keyA = keyboard.keyOf(a);
            int keyB = keyboard.keyOf(b);
            if (keyA == keyB || !isKey(keyA) || !isKey(keyB)) {
                return 0;
            }
            keyboard.exchange(a, b);
            int then = pressesOn(keyA, keyboard) + pressesOn(keyB, keyboard);
            keyboard.exchange(a, b);
            return keyPresses[keyA] + keyPresses[keyB] - then;
        }

        private int pressesOn(int key, Keyboard keyboard) {
            int sum = 0;
            int position = 0;
            for (int b = 0; b < LETTERS; b++) {
                if (keyboard.keyOf(b) == key) {
                    position++;
                    sum += times[b] * position;
                    sum += times[b] == 0 ? 0 : touchesOn(key, b, keyboard);
                }
            }
            return sum;
        }

        /** How often a letter follows, or is followed by, one of its key that isn't above it. */
        private int touchesOn(int key, int b, Keyboard keyboard) {
            int sum = 0;
            for (int a = 0; a <= b && b < LETTERS; a++) {
                sum += keyboard.keyOf(a) == key ? touches[a][b] : 0;
            }
            return sum;
        }
    }
}

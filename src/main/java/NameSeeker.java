/**
 * Names in an editor, found by a few letters typed. The words in great letters (NAME, WAY, SCORE ..)
 * are those of ../shared/DOC.md, which says what each call answers.
 */
public final class NameSeeker {
    public static final int BAD = -1, NO = -2, FULL = -3, NONE = -4;

    private static final String FIRST_TEXT =
        "s0,openFile;s0,open_file;s1,OpenFolio;s2,lastOpened;s3,find_Of;s0,poof;w4,3,1;";

    private static final int MOST_TEXT = 200;
    private static final int MOST_NAMES = 8;
    private static final int MOST_SIGNS = 12;
    private static final int MOST_LETTERS = 6;
    private static final int MOST_KEPT = 2;
    private static final int MOST_ASKED = 6;
    private static final int FIRST_LETTER = 32;
    private static final int LAST_LETTER = 126;

    private static final int EXACT = 1;
    private static final int TITLED = 2;
    private static final int LOOSE = 3;
    private static final int KINDS = 4;

    private static final int MOST_WORTH = 9;
    private static final int PLACE_WORTH = 50;
    private static final int NO_PLACE = -1;

    private static final int KNOWN_PLACES = 32;
    private static final int CODE_BASE = 53;
    private static final int TOLD_MODULO = 100003;
    private static final int SEED_FACTOR = 7919;
    private static final int SEED_STEP = 12345;
    private static final int SEED_MODULO = 65521;
    private static final int ALPHABET = 26;
    private static final int SHORT_BASE = 27;

    private final Text text = new Text();
    private final Lot lot = new Lot();
    private final Scales scales = new Scales();
    private final Word typed = new Word();
    private final Word tried = new Word();
    private final Word[] kept = new Word[MOST_KEPT];
    private final Laying laying = new Laying();
    private final Known known = new Known();
    private final Asked askedCodes = new Asked();
    private final Ranking ranking = new Ranking();
    private int keptSize = 0;
    private int tick = 0;
    private int age = 0;
    private int seed = 1;

    public NameSeeker() {
        for (int i = 0; i < MOST_KEPT; i++) {
            kept[i] = new Word();
        }
        for (int i = 0; i < FIRST_TEXT.length(); i++) {
            text.append(FIRST_TEXT.charAt(i));
        }
        layText();
        text.clear();
    }

    // ---- names

    public int write(int letter) {
        if (letter < FIRST_LETTER || letter > LAST_LETTER) {
            return BAD;
        }
        if (text.size >= MOST_TEXT) {
            return FULL;
        }
        text.append((char) letter);
        return text.size;
    }

    public int wipe() {
        return text.clear();
    }

    public int fault() {
        return text.firstFault();
    }

    public int lay() {
        if (text.firstFault() != NONE || !text.hasName()) {
            return NO;
        }
        layText();
        return lot.size;
    }

    public int name(int n, int what) {
        if (!lot.has(n)) {
            return BAD;
        }
        Name told = lot.names[n];
        switch (what) {
            case 0: return told.kind;
            case 1: return told.size;
            case 2: return told.id;
            case 3: return told.picked;
            case 4: return told.beginnings;
            default: return BAD;
        }
    }

    public int sign(int n, int place) {
        if (!lot.has(n) || place < 0) {
            return BAD;
        }
        Name told = lot.names[n];
        return place < told.size ? told.signs[place] : NONE;
    }

    /** Reads THE TEXT, which has no FAULT and a NAME at least. */
    private void layText() {
        lot.clear();
        scales.setDefaults();
        int start = 0;
        for (int item = 0; item < MOST_TEXT && start >= 0 && start < text.size; item++) {
            readItem(start);
            start = text.behindItem(start);
        }
        typed.clear();
        keptSize = 0;
        age++;
    }

    private void readItem(int start) {
        if (text.at(start) == 'w') {
            scales.set(text.figureAt(start + 1), text.figureAt(start + 3), text.figureAt(start + 5));
            return;
        }
        if (lot.size >= MOST_NAMES) {
            return;
        }
        Name added = lot.addName(text.figureAt(start + 1));
        for (int i = 0; i < MOST_SIGNS && isSign(text.at(start + 3 + i)); i++) {
            added.addSign(text.at(start + 3 + i));
        }
    }

    // ---- letters typed

    public int type(int letter) {
        if (!isLetter(letter)) {
            return BAD;
        }
        if (typed.size >= MOST_LETTERS) {
            return FULL;
        }
        typed.add((char) letter);
        return typed.size;
    }

    public int untype() {
        return typed.removeLast();
    }

    public int roll() {
        if (typed.size >= MOST_LETTERS) {
            return FULL;
        }
        seed = (SEED_FACTOR * seed + SEED_STEP) % SEED_MODULO;
        char drawn = (char) ('a' + seed % ALPHABET);
        typed.add(drawn);
        return drawn;
    }

    public int word(int k) {
        if (k < -1) {
            return BAD;
        }
        if (k == -1) {
            return typed.size;
        }
        return k < typed.size ? typed.letters[k] : NONE;
    }

    // ---- acts

    public int pick(int n) {
        if (!lot.has(n)) {
            return BAD;
        }
        tick++;
        lot.names[n].picked = tick;
        return tick;
    }

    public int forget(int n) {
        if (!lot.has(n)) {
            return BAD;
        }
        int before = lot.names[n].picked;
        if (before == 0) {
            return NO;
        }
        lot.names[n].picked = 0;
        return before;
    }

    public int drop(int n) {
        if (!lot.has(n)) {
            return BAD;
        }
        if (lot.size == 1) {
            return NO;
        }
        lot.remove(n);
        return lot.size;
    }

    public int rename(int n, int kind) {
        if (!lot.has(n) || kind < 0 || kind >= KINDS) {
            return BAD;
        }
        int before = lot.names[n].kind;
        if (before == kind) {
            return NO;
        }
        lot.names[n].kind = kind;
        age++;
        return before;
    }

    public int worth(int b, int r, int g) {
        if (!Scales.mayBe(b) || !Scales.mayBe(r) || !Scales.mayBe(g)) {
            return BAD;
        }
        if (scales.are(b, r, g)) {
            return NO;
        }
        scales.set(b, r, g);
        age++;
        return age;
    }

    // ---- sought

    public int score(int n) {
        return lot.has(n) ? seekScore(lot.names[n]) : BAD;
    }

    public int list(int i) {
        if (i < -1) {
            return BAD;
        }
        seekScores();
        ranking.rank(lot);
        if (i == -1) {
            askedCodes.add(typed.code());
            return ranking.size;
        }
        return i < ranking.size ? ranking.numbers[i] : NONE;
    }

    public int best(int n, int k) {
        if (!lot.has(n) || k < 0) {
            return BAD;
        }
        if (k >= typed.size || laying.workOut(lot.names[n], typed, scales) == NONE) {
            return NONE;
        }
        return laying.bestPlace(k);
    }

    public int ways(int n) {
        return lot.has(n) ? laying.countWays(lot.names[n], typed) : BAD;
    }

    public int passes(int what) {
        if (what != 0 && what != 1) {
            return BAD;
        }
        int bits = 0;
        for (int n = 0; n < lot.size; n++) {
            Name each = lot.names[n];
            if (what == 0 ? each.hasAll(typed) : laying.countWays(each, typed) > 0) {
                bits |= 1 << n;
            }
        }
        return bits;
    }

    public int asked(int k) {
        if (k < 0 || k >= MOST_ASKED) {
            return BAD;
        }
        return k < askedCodes.size ? (int) (askedCodes.codes[k] % TOLD_MODULO) : NONE;
    }

    public int brief(int n) {
        if (!lot.has(n)) {
            return BAD;
        }
        for (int first = 1; first <= ALPHABET; first++) {
            if (isFirstBy(n, first, 0)) {
                return SHORT_BASE * first;
            }
        }
        for (int first = 1; first <= ALPHABET; first++) {
            for (int second = 1; second <= ALPHABET; second++) {
                if (isFirstBy(n, first, second)) {
                    return SHORT_BASE * first + second;
                }
            }
        }
        return NONE;
    }

    public int pair(int n, int m) {
        if (!lot.has(n) || !lot.has(m)) {
            return BAD;
        }
        return Integer.bitCount(lot.names[n].letterBits & lot.names[m].letterBits);
    }

    private int seekScore(Name sought) {
        long code = typed.code();
        int place = Known.placeOf(sought.id, code, age);
        if (known.holds(place, sought.id, code, age)) {
            known.hits++;
            return known.scores[place];
        }
        known.misses++;
        int worked = laying.workOut(sought, typed, scales);
        known.put(place, sought.id, code, age, worked);
        return worked;
    }

    private void seekScores() {
        for (int n = 0; n < lot.size; n++) {
            // a NAME that does not PASS has no WAY either, and must not be SOUGHT here
            ranking.scores[n] = lot.names[n].hasAll(typed) ? seekScore(lot.names[n]) : NONE;
        }
    }

    /** Would NAME n be the first of THE LIST by the small letters of these numbers (second 0: none)? */
    private boolean isFirstBy(int n, int first, int second) {
        tried.clear();
        tried.add((char) ('a' + first - 1));
        if (second > 0) {
            tried.add((char) ('a' + second - 1));
        }
        if (!lot.names[n].hasAll(tried)) {
            return false;
        }
        for (int m = 0; m < lot.size; m++) {
            ranking.scores[m] = laying.workOut(lot.names[m], tried, scales);
        }
        return ranking.isFirst(lot, n);
    }

    // ---- kept

    public int keep() {
        if (keptSize >= MOST_KEPT) {
            return FULL;
        }
        kept[keptSize].copy(typed);
        keptSize++;
        return keptSize;
    }

    public int back() {
        if (keptSize == 0) {
            return NO;
        }
        keptSize--;
        typed.copy(kept[keptSize]);
        return keptSize;
    }

    public int count(int what) {
        switch (what) {
            case 0: return lot.size;
            case 1: return scales.beginning;
            case 2: return scales.row;
            case 3: return scales.gap;
            case 4: return lot.laid;
            case 5: return tick;
            case 6: return age;
            case 7: return known.hits;
            case 8: return known.misses;
            case 9: return seed;
            case 10: return keptSize;
            case 11: return text.size;
            case 12: return (int) (typed.code() % TOLD_MODULO);
            default: return BAD;
        }
    }

    // ---- signs

    private static boolean isSmall(int sign) {
        return sign >= 'a' && sign <= 'z';
    }

    private static boolean isGreat(int sign) {
        return sign >= 'A' && sign <= 'Z';
    }

    private static boolean isLetter(int sign) {
        return isSmall(sign) || isGreat(sign);
    }

    private static boolean isSign(int sign) {
        return isLetter(sign) || sign == '_';
    }

    /** 0 for a and A to 25 for z and Z. */
    private static int letterNumber(int letter) {
        return isSmall(letter) ? letter - 'a' : letter - 'A';
    }

    /** THE TEXT. */
    private static final class Text {
        final char[] letters = new char[MOST_TEXT];
        int size = 0;

        void append(char letter) {
            if (size < MOST_TEXT) {
                letters[size] = letter;
                size++;
            }
        }

        int clear() {
            int before = size;
            size = 0;
            return before;
        }

        /** The letter at a place; 0, which no ITEM has, where none stands. */
        char at(int place) {
            return place >= 0 && place < size ? letters[place] : 0;
        }

        int figureAt(int place) {
            return at(place) - '0';
        }

        int firstFault() {
            int start = 0;
            int namesSeen = 0;
            for (int item = 0; item < MOST_TEXT && start < size; item++) {
                int behind = behindItem(start);
                if (at(start) == 's') {
                    namesSeen++;
                }
                if (behind == NO_PLACE || namesSeen > MOST_NAMES) {
                    return start;
                }
                start = behind;
            }
            return NONE;
        }

        /** Whether a NAME is told, where there is no FAULT: then no letter but that of a NAME is an s. */
        boolean hasName() {
            for (int place = 0; place < size; place++) {
                if (letters[place] == 's') {
                    return true;
                }
            }
            return false;
        }

        /** The place behind the ITEM that starts there; NO_PLACE if it is none. */
        int behindItem(int start) {
            if (at(start) == 's') {
                return behindName(start);
            }
            return at(start) == 'w' ? behindWorths(start) : NO_PLACE;
        }

        private int behindName(int start) {
            if (!isFigure(start + 1, KINDS - 1) || at(start + 2) != ',') {
                return NO_PLACE;
            }
            int signs = 0;
            while (signs <= MOST_SIGNS && isSign(at(start + 3 + signs))) {
                signs++;
            }
            boolean isSo = signs >= 1 && signs <= MOST_SIGNS && at(start + 3 + signs) == ';';
            return isSo ? start + 4 + signs : NO_PLACE;
        }

        private int behindWorths(int start) {
            boolean isSo = isFigure(start + 1, MOST_WORTH) && at(start + 2) == ','
                && isFigure(start + 3, MOST_WORTH) && at(start + 4) == ','
                && isFigure(start + 5, MOST_WORTH) && at(start + 6) == ';';
            return isSo ? start + 7 : NO_PLACE;
        }

        private boolean isFigure(int place, int most) {
            return figureAt(place) >= 0 && figureAt(place) <= most;
        }
    }

    /** A NAME. */
    private static final class Name {
        final char[] signs = new char[MOST_SIGNS];
        int size = 0;
        int kind = 0;
        int id = 0;
        int picked = 0;
        int beginnings = 0;
        int letterBits = 0;

        void reset(int newKind, int newId) {
            size = 0;
            kind = newKind;
            id = newId;
            picked = 0;
            beginnings = 0;
            letterBits = 0;
        }

        void addSign(char sign) {
            if (size >= MOST_SIGNS) {
                return;
            }
            if (wouldBegin(sign)) {
                beginnings |= 1 << size;
            }
            if (isLetter(sign)) {
                letterBits |= 1 << letterNumber(sign);
            }
            signs[size] = sign;
            size++;
        }

        private boolean wouldBegin(char sign) {
            if (size == 0 || !isLetter(sign)) {
                return isLetter(sign);
            }
            char ahead = signs[size - 1];
            return ahead == '_' || (isGreat(sign) && isSmall(ahead));
        }

        boolean isAlike(int place, char letter) {
            char sign = signs[place];
            if (sign == letter) {
                return true;
            }
            return kind != EXACT && isLetter(sign) && letterNumber(sign) == letterNumber(letter);
        }

        /** Whether it PASSES. */
        boolean hasAll(Word word) {
            return (word.letterBits() & ~letterBits) == 0;
        }
    }

    /** The NAMES that are LAID; their objects are used again, so that no call makes any. */
    private static final class Lot {
        final Name[] names = new Name[MOST_NAMES];
        int size = 0;
        int laid = 0;

        Lot() {
            for (int n = 0; n < MOST_NAMES; n++) {
                names[n] = new Name();
            }
        }

        boolean has(int n) {
            return n >= 0 && n < size;
        }

        void clear() {
            size = 0;
        }

        /** There must be room for it. */
        Name addName(int kind) {
            Name added = names[size];
            added.reset(kind, laid);
            size++;
            laid++;
            return added;
        }

        void remove(int n) {
            Name removed = names[n];
            for (int m = n + 1; m < size; m++) {
                names[m - 1] = names[m];
            }
            size--;
            names[size] = removed;
        }
    }

    /** What BEGINNINGS and ROWS are worth, and what GAPS cost. */
    private static final class Scales {
        int beginning = 0;
        int row = 0;
        int gap = 0;

        static boolean mayBe(int figure) {
            return figure >= 0 && figure <= MOST_WORTH;
        }

        void setDefaults() {
            set(3, 2, 1);
        }

        void set(int b, int r, int g) {
            beginning = b;
            row = r;
            gap = g;
        }

        boolean are(int b, int r, int g) {
            return beginning == b && row == r && gap == g;
        }

        int ofPlace(Name name, int place) {
            if ((name.beginnings & (1 << place)) == 0) {
                return PLACE_WORTH;
            }
            boolean isTitle = name.kind == TITLED && place == 0;
            return PLACE_WORTH + (isTitle ? 2 * beginning : beginning);
        }

        /** What it adds that in a WAY the one place comes next to the other. */
        int ofStep(Name name, int place, int next) {
            if (next == place + 1) {
                return row;
            }
            return name.kind == LOOSE ? 0 : -gap * (next - place - 1);
        }
    }

    /** THE WORD, or one that is KEPT or tried. */
    private static final class Word {
        final char[] letters = new char[MOST_LETTERS];
        int size = 0;

        void clear() {
            size = 0;
        }

        void add(char letter) {
            if (size < MOST_LETTERS) {
                letters[size] = letter;
                size++;
            }
        }

        int removeLast() {
            if (size == 0) {
                return NO;
            }
            size--;
            return letters[size];
        }

        void copy(Word other) {
            size = other.size;
            for (int i = 0; i < size; i++) {
                letters[i] = other.letters[i];
            }
        }

        /** CODE, which six letters make too great for an int. */
        long code() {
            long code = 0;
            for (int i = 0; i < size; i++) {
                int great = isGreat(letters[i]) ? ALPHABET : 0;
                code = CODE_BASE * code + great + letterNumber(letters[i]) + 1;
            }
            return code;
        }

        int letterBits() {
            int bits = 0;
            for (int i = 0; i < size; i++) {
                bits |= 1 << letterNumber(letters[i]);
            }
            return bits;
        }
    }

    /** Works out the WAYS of a NAME, from the last letter of a word to the first. */
    private static final class Laying {
        /**
         * By letter and place: the greatest WORTH from that letter on, when it is laid there; NONE if it can't be.
         * Six letters in twelve places are worth 10 at least, so that no WORTH is like NONE.
         */
        final int[][] tails = new int[MOST_LETTERS][MOST_SIGNS];
        /** By letter and place: where the letter behind it is laid best then. */
        final int[][] nexts = new int[MOST_LETTERS][MOST_SIGNS];
        final int[] counts = new int[MOST_LETTERS + 1];
        int bestFirst = NO_PLACE;

        /** The SCORE; then bestPlace() tells the BEST. */
        int workOut(Name name, Word word, Scales scales) {
            bestFirst = NO_PLACE;
            if (word.size == 0) {
                return 0;
            }
            for (int k = word.size - 1; k >= 0; k--) {
                workOutLetter(name, word, k, scales);
            }
            int greatest = NONE;
            for (int place = 0; place < name.size; place++) {
                if (tails[0][place] > greatest) {
                    greatest = tails[0][place];
                    bestFirst = place;
                }
            }
            return greatest;
        }

        private void workOutLetter(Name name, Word word, int k, Scales scales) {
            for (int place = 0; place < name.size; place++) {
                nexts[k][place] = NO_PLACE;
                if (!name.isAlike(place, word.letters[k])) {
                    tails[k][place] = NONE;
                } else if (k == word.size - 1) {
                    tails[k][place] = scales.ofPlace(name, place);
                } else {
                    workOutNext(name, k, place, scales);
                }
            }
        }

        private void workOutNext(Name name, int k, int place, Scales scales) {
            int greatest = 0;
            int next = NO_PLACE;
            for (int q = place + 1; q < name.size; q++) {
                if (tails[k + 1][q] == NONE) {
                    continue;
                }
                int behind = tails[k + 1][q] + scales.ofStep(name, place, q);
                // only a greater one comes in place of an earlier one: of several the first place is BEST
                if (next == NO_PLACE || behind > greatest) {
                    greatest = behind;
                    next = q;
                }
            }
            nexts[k][place] = next;
            tails[k][place] = next == NO_PLACE ? NONE : scales.ofPlace(name, place) + greatest;
        }

        int bestPlace(int k) {
            int place = bestFirst;
            for (int i = 0; i < k && i < MOST_LETTERS && place != NO_PLACE; i++) {
                place = nexts[i][place];
            }
            return place == NO_PLACE ? NONE : place;
        }

        int countWays(Name name, Word word) {
            counts[0] = 1;
            for (int k = 1; k <= word.size; k++) {
                counts[k] = 0;
            }
            for (int place = 0; place < name.size; place++) {
                // the last letter first: a place must not serve two letters of one WAY
                for (int k = word.size; k >= 1; k--) {
                    if (name.isAlike(place, word.letters[k - 1])) {
                        counts[k] += counts[k - 1];
                    }
                }
            }
            return counts[word.size];
        }
    }

    /** The PLACES, HITS and MISSES. */
    private static final class Known {
        final int[] ids = new int[KNOWN_PLACES];
        final long[] codes = new long[KNOWN_PLACES];
        /** 0 where a PLACE is empty: the AGE is 1 at least whenever a SCORE is SOUGHT. */
        final int[] ages = new int[KNOWN_PLACES];
        final int[] scores = new int[KNOWN_PLACES];
        int hits = 0;
        int misses = 0;

        static int placeOf(int id, long code, int age) {
            // for a power of two the mask is the modulo, and it never leaves the PLACES
            return (int) ((31L * id + 7L * code + age) & (KNOWN_PLACES - 1));
        }

        boolean holds(int place, int id, long code, int age) {
            return ids[place] == id && codes[place] == code && ages[place] == age;
        }

        void put(int place, int id, long code, int age, int score) {
            ids[place] = id;
            codes[place] = code;
            ages[place] = age;
            scores[place] = score;
        }
    }

    /** What was ASKED, the latest first. */
    private static final class Asked {
        final long[] codes = new long[MOST_ASKED];
        int size = 0;

        void add(long code) {
            for (int i = MOST_ASKED - 1; i > 0; i--) {
                codes[i] = codes[i - 1];
            }
            codes[0] = code;
            size = Math.min(size + 1, MOST_ASKED);
        }
    }

    /** THE LIST by the scores that are put here. */
    private static final class Ranking {
        final int[] scores = new int[MOST_NAMES];
        final int[] numbers = new int[MOST_NAMES];
        int size = 0;

        void rank(Lot lot) {
            size = 0;
            for (int n = 0; n < lot.size; n++) {
                if (scores[n] != NONE) {
                    insert(lot, n);
                }
            }
        }

        private void insert(Lot lot, int n) {
            int at = size;
            while (at > 0 && isAhead(lot, n, numbers[at - 1])) {
                numbers[at] = numbers[at - 1];
                at--;
            }
            numbers[at] = n;
            size++;
        }

        boolean isFirst(Lot lot, int n) {
            if (scores[n] == NONE) {
                return false;
            }
            for (int m = 0; m < lot.size; m++) {
                if (m != n && scores[m] != NONE && isAhead(lot, m, n)) {
                    return false;
                }
            }
            return true;
        }

        private boolean isAhead(Lot lot, int n, int m) {
            if (scores[n] != scores[m]) {
                return scores[n] > scores[m];
            }
            Name one = lot.names[n];
            Name other = lot.names[m];
            if (one.picked != other.picked) {
                return one.picked > other.picked;
            }
            return one.size != other.size ? one.size < other.size : n < m;
        }
    }
}

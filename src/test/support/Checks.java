import java.util.function.Consumer;
import java.util.function.ToIntFunction;

/** What the tests share: short ways to call, what an object tells of itself, and what was not as due. */
class Checks {
    static final int BAD = -1, NO = -2, FULL = -3, NONE = -4;
    static final int MIN = Integer.MIN_VALUE, MAX = Integer.MAX_VALUE;
    private static int checks = 0;
    private static int wrong = 0;
    private static int edges = 0;
    private static int broken = 0;

    static void due(String what, Object got, Object want) {
        checks++;
        if (!got.equals(want)) {
            wrong++;
            System.out.println(what + ": got " + got + ", due is " + want);
        }
    }

    /** One sentence of the document and the test that is its own. */
    static void edge(String sentence, Runnable test) {
        int before = wrong;
        test.run();
        edges++;
        if (wrong != before) {
            broken++;
            System.out.println("BROKEN: " + sentence);
        }
    }

    static void end() {
        if (edges > 0) {
            System.out.println(edges + " edges, " + broken + " broken");
        }
        System.out.println(checks + " checks, " + wrong + " wrong");
        if (wrong != 0) {
            System.exit(1);
        }
    }

    /** Writes this in place of THE TEXT. */
    static NameSeeker write(NameSeeker x, String text) {
        x.wipe();
        for (int i = 0; i < text.length(); i++) {
            x.write(text.charAt(i));
        }
        return x;
    }

    static NameSeeker laid(String text) {
        NameSeeker x = write(new NameSeeker(), text);
        if (x.lay() < 0) {
            due("lay of " + text, NO, "laid");
        }
        return x;
    }

    /** Types these letters in place of THE WORD. */
    static NameSeeker type(NameSeeker x, String letters) {
        for (int left = x.word(-1); left > 0; left--) {
            x.untype();
        }
        for (int i = 0; i < letters.length(); i++) {
            x.type(letters.charAt(i));
        }
        return x;
    }

    static String word(NameSeeker x) {
        StringBuilder letters = new StringBuilder();
        int size = x.word(-1);
        for (int k = 0; k < size; k++) {
            letters.append((char) x.word(k));
        }
        return letters.toString();
    }

    static String signs(NameSeeker x, int n) {
        StringBuilder signs = new StringBuilder();
        int sign = x.sign(n, 0);
        for (int place = 1; sign >= 0; place++) {
            signs.append((char) sign);
            sign = x.sign(n, place);
        }
        return signs.toString();
    }

    /** KIND, signs, ID, TICK and BEGINNINGS of all NAMES. */
    static String names(NameSeeker x) {
        StringBuilder told = new StringBuilder();
        int size = x.count(0);
        for (int n = 0; n < size; n++) {
            told.append(n == 0 ? "" : " ").append(x.name(n, 0)).append(signs(x, n));
            for (int what = 1; what <= 4; what++) {
                told.append(',').append(x.name(n, what));
            }
        }
        return told.toString();
    }

    static String list(NameSeeker x) {
        StringBuilder numbers = new StringBuilder();
        int number = x.list(0);
        for (int i = 1; number >= 0; i++) {
            numbers.append(number);
            number = x.list(i);
        }
        return numbers.toString();
    }

    static String best(NameSeeker x, int n) {
        StringBuilder places = new StringBuilder();
        int place = x.best(n, 0);
        for (int k = 1; place >= 0; k++) {
            places.append(k == 1 ? "" : ",").append(place);
            place = x.best(n, k);
        }
        return places.toString();
    }

    static String counts(NameSeeker x) {
        StringBuilder counts = new StringBuilder();
        for (int what = 0; what <= 12; what++) {
            counts.append(what == 0 ? "" : " ").append(x.count(what));
        }
        return counts.toString();
    }

    static String asked(NameSeeker x) {
        StringBuilder codes = new StringBuilder();
        for (int k = 0; k < 6; k++) {
            codes.append(k == 0 ? "" : " ").append(x.asked(k));
        }
        return codes.toString();
    }

    static void sought(NameSeeker x, String what, int hits, int misses) {
        due(what, x.count(7) + " hits, " + x.count(8) + " misses", hits + " hits, " + misses + " misses");
    }

    /** Whether the SCORE of NAME n by this word lies at its PLACE; it does then. */
    static boolean isKnown(NameSeeker x, String letters, int n) {
        type(x, letters);
        int hits = x.count(7);
        x.score(n);
        return x.count(7) == hits + 1;
    }

    static long code(String letters) {
        long code = 0;
        for (char letter : letters.toCharArray()) {
            code = 53 * code + 1 + "abcdefghijklmnopqrstuvwxyzABCDEFGHIJKLMNOPQRSTUVWXYZ".indexOf(letter);
        }
        return code;
    }

    /** The word of this CODE; null if there is none. */
    static String wordOf(long code) {
        StringBuilder letters = new StringBuilder();
        for (long rest = code; rest > 0; rest /= 53) {
            int figure = (int) (rest % 53);
            if (figure == 0) {
                return null;
            }
            letters.insert(0, (char) (figure <= 26 ? 'a' + figure - 1 : 'A' + figure - 27));
        }
        return letters.length() <= 6 ? letters.toString() : null;
    }

    /** A call that is refused answers what is due, and again, and leaves the object as its twin that is not called. */
    static void refused(String what, Consumer<NameSeeker> acts, ToIntFunction<NameSeeker> call, int want) {
        NameSeeker called = new NameSeeker();
        NameSeeker twin = new NameSeeker();
        acts.accept(called);
        acts.accept(twin);
        due(what, call.applyAsInt(called), want);
        due(what + ", again", call.applyAsInt(called), want);
        due(what + ", and what is told then", all(called), all(twin));
    }

    /** All that an object can be brought to tell; it is used up by it. */
    static String all(NameSeeker x) {
        StringBuilder told = new StringBuilder();
        told.append(counts(x)).append(" NAMES ").append(names(x)).append(" WORD ").append(word(x));
        told.append(" ASKED ").append(asked(x)).append(" FAULT ").append(x.fault());
        told.append(" PLACES");
        for (int n = 0; n < x.count(0); n++) {
            told.append(' ').append(x.score(n)).append(' ').append(x.count(7));
        }
        told.append(" LIST ").append(list(x)).append(" KEPT");
        while (x.back() >= 0) {
            told.append(' ').append(word(x)).append(' ').append(x.score(0)).append(' ').append(x.count(7));
        }
        x.untype();
        told.append(" SEED ").append(x.roll()).append(" TICK ").append(x.pick(0));
        told.append(" TEXT ").append(x.lay()).append(' ').append(x.write(';')).append(' ').append(x.fault());
        told.append(' ').append(x.lay()).append(' ').append(names(x)).append(' ').append(counts(x));
        return told.toString();
    }
}

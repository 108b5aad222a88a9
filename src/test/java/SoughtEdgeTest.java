import java.util.Random;

/** Each sentence of promises 17 to 22, what is SOUGHT and ASKED, that names an edge: a test of its own. */
public final class SoughtEdgeTest extends Checks {
    private static final String EIGHT = "s0,a;s1,b;s2,c;s3,d;s0,e;s1,f;s2,g;s3,h;";
    private static final long INT_RANGE = 1L << 32;
    private static final int TOLD_MODULO = 100003;

    public static void main(String[] args) {
        promise17Score();
        promise17Sought();
        promise18();
        promise18Sought();
        promise19();
        promise20();
        promise21();
        promise22();
        end();
    }

    private static void score(String name, String letters, int want) {
        due("score of " + letters + " in " + name, type(laid(name), letters).score(0), want);
    }

    private static void promise17Score() {
        edge("17: BAD: n", SoughtEdgeTest::scoreNumbers);
        edge("17: 0 if THE WORD is empty", SoughtEdgeTest::scoreOfEmptyWord);
        edge("17: NONE: no WAY", SoughtEdgeTest::scoreNone);
        edge("17: a WAY has each place once", SoughtEdgeTest::scorePlacesOnce);
        edge("17: places rising", SoughtEdgeTest::scoreRising);
        edge("17: alike but for great and small, a to z", SoughtEdgeTest::scoreAlike);
        edge("17: in an EXACT NAME just the same ones", SoughtEdgeTest::scoreExact);
        edge("17: no letter is alike to a _", SoughtEdgeTest::scoreLine);
        edge("17: 50 for each place, 1 to 6", SoughtEdgeTest::scorePlaces);
        edge("17: B 0 to 9 for each BEGINNING", SoughtEdgeTest::scoreBeginnings);
        edge("17: 2 B for the first place of a TITLED NAME alone", SoughtEdgeTest::scoreTitled);
        edge("17: R 0 to 9 for each next behind the one ahead", SoughtEdgeTest::scoreRows);
        edge("17: less G 0 to 9 for each place between", SoughtEdgeTest::scoreGaps);
        edge("17: no GAP ahead of the first place and behind the last", SoughtEdgeTest::scoreNoGapOutside);
        edge("17: in a LOOSE NAME no GAP", SoughtEdgeTest::scoreLoose);
        edge("17: the greatest and the least that there is", SoughtEdgeTest::scoreBounds);
        edge("17: by 1 the greater WORTH", SoughtEdgeTest::scoreByOne);
    }

    private static void scoreNumbers() {
        for (int n : new int[] {MIN, -2, -1, 6, 7, 8, MAX}) {
            NameSeeker x = new NameSeeker();
            due("score " + n, x.score(n), BAD);
            sought(x, "nothing is SOUGHT by BAD", 0, 0);
        }
        due("the last of 6", new NameSeeker().score(5), 0);
        due("the last of 8", laid(EIGHT).score(7), 0);
        due("no ninth", laid(EIGHT).score(8), BAD);
        NameSeeker x = laid("s0,a;s0,b;");
        x.drop(0);
        due("DROPPED", x.score(1), BAD);
        due("left", x.score(0), 0);
    }

    private static void scoreOfEmptyWord() {
        for (int n = 0; n < 6; n++) {
            due("name " + n, new NameSeeker().score(n), 0);
        }
        score("s2,Aa;w9,9,9;", "", 0);
        score("s0,_;", "", 0);
        NameSeeker x = type(laid("s0,a;"), "a");
        x.score(0);
        due("taken back", x.untype() + x.score(0), 'a' + 0);
    }

    private static void scoreNone() {
        score("s0,a;", "b", NONE);
        score("s0,a;", "ab", NONE);
        score("s0,ab;", "abc", NONE);
        score("s0,abcdef;", "abcdef", 300 + 3 + 5 * 2);
        score("s0,abcde;", "abcdef", NONE);
        score("s0,_;", "a", NONE);
    }

    private static void scorePlacesOnce() {
        score("s0,a;", "aa", NONE);
        score("s0,aa;w0,0,0;", "aa", 100);
        score("s0,aa;", "aaa", NONE);
        score("s0,aaaaaa;w0,0,0;", "aaaaaa", 300);
        score("s0,aaaaa;", "aaaaaa", NONE);
    }

    private static void scoreRising() {
        score("s0,ab;", "ba", NONE);
        score("s0,ba;w0,0,0;", "ba", 100);
        score("s0,bab;w0,0,0;", "ba", 100);
        score("s0,abcdef;", "fedcba", NONE);
    }

    private static void scoreAlike() {
        for (int i = 0; i < 26; i++) {
            char small = (char) ('a' + i), great = (char) ('A' + i);
            score("s0," + small + ";w0,0,0;", "" + small, 50);
            score("s0," + small + ";w0,0,0;", "" + great, 50);
            score("s2," + great + ";w0,0,0;", "" + small, 50);
            score("s3," + great + ";w0,0,0;", "" + great, 50);
            score("s0," + small + ";", "" + (char) ('a' + (i + 1) % 26), NONE);
            score("s0," + small + ";", "" + (char) ('A' + (i + 25) % 26), NONE);
        }
    }

    private static void scoreExact() {
        for (int i = 0; i < 26; i++) {
            char small = (char) ('a' + i), great = (char) ('A' + i);
            score("s1," + small + ";w0,0,0;", "" + small, 50);
            score("s1," + small + ";", "" + great, NONE);
            score("s1," + great + ";", "" + small, NONE);
            score("s1," + great + ";w0,0,0;", "" + great, 50);
        }
        score("s1,aA;w9,0,0;", "A", 59);
        score("s1,aA;w9,0,0;", "Aa", NONE);
    }

    private static void scoreLine() {
        for (char letter : "azAZm".toCharArray()) {
            score("s0,_;", "" + letter, NONE);
            score("s3,______;", "" + letter, NONE);
            score("s1,_;", "" + letter, NONE);
        }
    }

    private static void scorePlaces() {
        for (int size = 1; size <= 6; size++) {
            score("s0,xabcdef;w0,0,0;", "abcdef".substring(0, size), 50 * size);
        }
    }

    private static void scoreBeginnings() {
        for (int b = 0; b <= 9; b++) {
            score("s0,ab;w" + b + ",0,0;", "a", 50 + b);
            score("s0,ab;w" + b + ",0,0;", "b", 50);
            score("s0,_b;w" + b + ",0,0;", "b", 50 + b);
            score("s0,aB;w" + b + ",0,0;", "b", 50 + b);
            score("s0,aBcDeF;w" + b + ",0,0;", "abcdef", 300 + 4 * b);
            score("s0,aB_cDE;w" + b + ",0,0;", "abcde", 250 + 4 * b);
        }
    }

    private static void scoreTitled() {
        for (int b = 0; b <= 9; b++) {
            score("s2,aBc;w" + b + ",0,0;", "a", 50 + 2 * b);
            score("s2,aBc;w" + b + ",0,0;", "b", 50 + b);
            score("s2,aBc;w" + b + ",0,0;", "c", 50);
            score("s2,aBc;w" + b + ",0,0;", "abc", 150 + 3 * b);
            score("s2,_bc;w" + b + ",0,0;", "b", 50 + b);
            for (int kind : new int[] {0, 1, 3}) {
                score("s" + kind + ",aBc;w" + b + ",0,0;", "a", 50 + b);
            }
        }
    }

    private static void scoreRows() {
        for (int r = 0; r <= 9; r++) {
            score("s0,xabc;w0," + r + ",0;", "a", 50);
            score("s0,xabc;w0," + r + ",0;", "ab", 100 + r);
            score("s0,xabc;w0," + r + ",0;", "abc", 150 + 2 * r);
            score("s0,xabc;w0," + r + ",0;", "ac", 100);
            score("s0,abcdef;w0," + r + ",0;", "abcdef", 300 + 5 * r);
            score("s3,abxcd;w0," + r + ",0;", "abcd", 200 + 2 * r);
        }
    }

    private static void scoreGaps() {
        for (int g = 0; g <= 9; g++) {
            score("s0,ab;w0,0," + g + ";", "ab", 100);
            score("s0,axb;w0,0," + g + ";", "ab", 100 - g);
            score("s1,axxb;w0,0," + g + ";", "ab", 100 - 2 * g);
            score("s2,axbxxc;w0,0," + g + ";", "abc", 150 - 3 * g);
            score("s0,axxxxxxxxxxb;w0,0," + g + ";", "ab", 100 - 10 * g);
            score("s0,a_b;w0,0," + g + ";", "ab", 100 - g);
        }
    }

    private static void scoreNoGapOutside() {
        score("s0,xxxxxabxxxxx;w0,0,9;", "ab", 100);
        score("s0,xxxxxxxxxxxa;w0,0,9;", "a", 50);
        score("s0,axxxxxxxxxxx;w0,0,9;", "a", 50);
    }

    private static void scoreLoose() {
        for (int g = 0; g <= 9; g++) {
            score("s3,axxxxxxxxxxb;w0,0," + g + ";", "ab", 100);
            score("s3,axbxc;w0,5," + g + ";", "abc", 150);
            score("s3,axbc;w0,5," + g + ";", "abc", 155);
        }
    }

    private static void scoreBounds() {
        score("s2,aBcDeF;w9,9,0;", "abcdef", 300 + 5 * 9 + 5 * 9);
        score("s2,a_b_c_d_e_f;w9,9,0;", "abcdef", 300 + 7 * 9);
        score("s0,xaxxxxxxxxxb;w9,9,9;", "ab", 100 - 9 * 9);
        score("s0,axxxxxxxxxxb;w0,9,9;", "ab", 10);
        score("s0,axxxxxxbcdef;w0,0,9;", "abcdef", 300 - 6 * 9);
        score("s0,a;w0,0,9;", "a", 50);
    }

    private static void scoreByOne() {
        score("s0,xa_a;w1,0,0;", "a", 51);
        score("s0,xaxab;w0,1,0;", "ab", 101);
        score("s0,axxbxxxxaxbx;w0,0,1;", "ab", 99);
        score("s0,a_axb;w2,3,1;", "ab", 101);
    }

    private static void promise17Sought() {
        edge("17: HIT: the same ID, CODE and AGE", SoughtEdgeTest::seekHit);
        edge("17: MISS: another ID", SoughtEdgeTest::seekOtherId);
        edge("17: MISS: another CODE at the same PLACE", SoughtEdgeTest::seekOtherCode);
        edge("17: MISS: a CODE that is the same only modulo 2^32", SoughtEdgeTest::seekCodeBeyondInt);
        edge("17: MISS: a CODE that is the same only modulo 100003", SoughtEdgeTest::seekCodeModulo);
        edge("17: MISS: another AGE", SoughtEdgeTest::seekOtherAge);
        edge("17: MISS: another AGE at the same PLACE", SoughtEdgeTest::seekAgeOnceAround);
        edge("17: MISS: another ID, by another AGE, at the same PLACE", SoughtEdgeTest::seekLaidAnew);
        edge("17: none lies there, too", SoughtEdgeTest::seekNone);
        edge("17: 0 lies there, too", SoughtEdgeTest::seekZero);
        edge("17: it lies there in place of what did", SoughtEdgeTest::seekInPlaceOf);
        edge("17: (31 ID + 7 CODE + AGE) modulo 32, one letter", SoughtEdgeTest::seekPlaces);
        edge("17: (31 ID + 7 CODE + AGE) modulo 32, any words", SoughtEdgeTest::seekPlacesOfWords);
        edge("17: CODE 1 to 26 a to z, 27 to 52 A to Z, 53 times", SoughtEdgeTest::seekCodes);
        edge("17: what does not PASS is SOUGHT, too", SoughtEdgeTest::seekWhatDoesNotPass);
        edge("17: nothing else empties PLACES", SoughtEdgeTest::seekStaysKnown);
        edge("17: HITS of 512 calls", SoughtEdgeTest::seekMostHits);
        edge("17: MISSES of 512 calls", SoughtEdgeTest::seekMostMisses);
    }

    private static void seekHit() {
        NameSeeker x = new NameSeeker();
        x.score(0);
        sought(x, "the first time", 0, 1);
        x.score(0);
        sought(x, "the second", 1, 1);
        x.score(0);
        sought(x, "the third", 2, 1);
        type(x, "o");
        x.score(0);
        type(x, "");
        x.score(0);
        sought(x, "typed and taken back", 3, 2);
    }

    private static void seekOtherId() {
        NameSeeker x = laid("s0,a;s0,a;");
        x.score(0);
        x.score(1);
        sought(x, "the same letters", 0, 2);
        x.score(0);
        x.score(1);
        sought(x, "both are known", 2, 2);
        x.drop(0);
        x.score(0);
        sought(x, "known by its ID, not by its number", 3, 2);
    }

    /** CODES 1 and 33 are 32 apart. */
    private static void seekOtherCode() {
        NameSeeker x = laid("s1,a;");
        due("a", type(x, "a").score(0), 53);
        due("G", type(x, "G").score(0), NONE);
        sought(x, "two CODES", 0, 2);
        due("a again", type(x, "a").score(0), 53);
        sought(x, "it was taken", 0, 3);
    }

    private static void seekCodeBeyondInt() {
        long code = 53 * 53 * 53 * 53;
        while (wordOf(code) == null || wordOf(code + INT_RANGE) == null) {
            code++;
        }
        NameSeeker x = new NameSeeker();
        due(wordOf(code), isKnown(x, wordOf(code), 0), false);
        due(wordOf(code + INT_RANGE), isKnown(x, wordOf(code + INT_RANGE), 0), false);
        due(wordOf(code) + " again", isKnown(x, wordOf(code), 0), false);
    }

    private static void seekCodeModulo() {
        long code = 1;
        while (wordOf(code) == null || wordOf(code + 32 * TOLD_MODULO) == null) {
            code++;
        }
        NameSeeker x = new NameSeeker();
        due(wordOf(code), isKnown(x, wordOf(code), 0), false);
        due(wordOf(code + 32 * TOLD_MODULO), isKnown(x, wordOf(code + 32 * TOLD_MODULO), 0), false);
        due(wordOf(code) + " again", isKnown(x, wordOf(code), 0), false);
    }

    private static void seekOtherAge() {
        NameSeeker x = new NameSeeker();
        x.score(0);
        x.worth(4, 3, 2);
        x.score(0);
        sought(x, "by worth", 0, 2);
        x.rename(5, 1);
        x.score(0);
        sought(x, "by rename of another NAME", 0, 3);
        x.score(0);
        sought(x, "by the same AGE", 1, 3);
    }

    private static void seekAgeOnceAround() {
        NameSeeker x = type(new NameSeeker(), "o");
        for (int times = 1; times <= 8; times++) {
            x.score(0);
            sought(x, "AGE " + x.count(6), 0, times);
            for (int i = 0; i < 32; i++) {
                x.worth(4, 3, 2 + (i + 32 * times) % 7);
            }
        }
        due("the AGE", x.count(6), 1 + 8 * 32);
    }

    private static void seekLaidAnew() {
        NameSeeker x = laid("s0,a;");
        due("ID 6, AGE 2", isKnown(x, "b", 0), false);
        x.lay();
        due("ID 7, AGE 3", isKnown(x, "b", 0), false);
        due("it is known", isKnown(x, "b", 0), true);
    }

    private static void seekNone() {
        NameSeeker x = type(new NameSeeker(), "zz");
        for (int i = 0; i < 3; i++) {
            due("score " + i, x.score(0), NONE);
            sought(x, "none " + i, i, 1);
        }
    }

    private static void seekZero() {
        NameSeeker x = new NameSeeker();
        for (int i = 0; i < 3; i++) {
            due("score " + i, x.score(0), 0);
            sought(x, "zero " + i, i, 1);
        }
    }

    /** ID 0, CODE 0 and ID 5, CODE 19 have one PLACE: 155 + 133 is nine times 32. */
    private static void seekInPlaceOf() {
        NameSeeker x = new NameSeeker();
        due("the one", isKnown(x, "", 0), false);
        due("the other", isKnown(x, "s", 5), false);
        due("the other lies there", isKnown(x, "s", 5), true);
        due("the one does not", isKnown(x, "", 0), false);
        due("the one lies there", isKnown(x, "", 0), true);
        due("the other does not", isKnown(x, "s", 5), false);
    }

    /** Whether the SCORE of ID 6 by the one word is gone when that of ID 6 + n by the other was SOUGHT. */
    private static void places(String one, int n, String other) {
        NameSeeker x = laid("s0,a;s0,a;s0,a;s0,a;s0,a;s0,a;s0,a;s0,a;");
        isKnown(x, one, 0);
        isKnown(x, other, n);
        long apart = 31 * n + 7 * (code(other) - code(one));
        boolean isSame = n == 0 && one.equals(other);
        due("0 by " + one + " after " + n + " by " + other, isKnown(x, one, 0), isSame || apart % 32 != 0);
    }

    private static void seekPlaces() {
        for (int n = 0; n < 8; n++) {
            for (int code = 0; code <= 52; code++) {
                places("", n, wordOf(code));
            }
        }
    }

    private static void seekPlacesOfWords() {
        Random random = new Random(1);
        for (int i = 0; i < 1500; i++) {
            String one = drawn(random), other = drawn(random);
            for (int n = 0; n < 8; n++) {
                long apart = 31 * n + 7 * (code(other) - code(one));
                // most words do not meet at one PLACE; of those a few are enough
                if (apart % 32 == 0 || i % 10 == 0) {
                    places(one, n, other);
                }
            }
        }
        places("ZZZZZZ", 0, "h");
        places("zzzzzz", 0, "t");
    }

    private static String drawn(Random random) {
        StringBuilder letters = new StringBuilder();
        for (int size = random.nextInt(7); size > 0; size--) {
            letters.append(wordOf(1 + random.nextInt(52)));
        }
        return letters.toString();
    }

    private static void seekCodes() {
        for (int code = 1; code <= 52; code++) {
            due("CODE of " + wordOf(code), type(new NameSeeker(), wordOf(code)).count(12), code);
        }
        due("aa", type(new NameSeeker(), "aa").count(12), 54);
        due("az", type(new NameSeeker(), "az").count(12), 79);
        due("aZ", type(new NameSeeker(), "aZ").count(12), 105);
        due("ba", type(new NameSeeker(), "ba").count(12), 107);
        due("ZZ", type(new NameSeeker(), "ZZ").count(12), 52 * 53 + 52);
        due("aaa", type(new NameSeeker(), "aaa").count(12), 53 * 53 + 53 + 1);
    }

    private static void seekWhatDoesNotPass() {
        NameSeeker x = type(laid("s0,a;s0,b;"), "a");
        x.list(-1);
        sought(x, "one PASSES", 0, 1);
        due("the other", x.score(1), NONE);
        sought(x, "it is SOUGHT by score", 0, 2);
        x.list(-1);
        sought(x, "nor does it PASS then", 1, 2);
    }

    private static void seekStaysKnown() {
        NameSeeker x = laid("s0,ab;s0,ba;s0,c;");
        type(x, "a").score(0);
        x.pick(0);
        x.forget(0);
        x.drop(2);
        x.roll();
        x.untype();
        x.keep();
        x.back();
        x.wipe();
        x.write('x');
        x.lay();
        x.worth(3, 2, 1);
        x.worth(10, 0, 0);
        x.rename(0, 0);
        x.rename(0, 4);
        x.best(0, 0);
        x.ways(0);
        x.passes(1);
        x.brief(0);
        x.list(-2);
        sought(x, "SOUGHT once", 0, 1);
        x.score(0);
        sought(x, "it is known", 1, 1);
        x.list(-1);
        sought(x, "list knows it, too", 2, 2);
        x.score(1);
        sought(x, "and what list sought is known", 3, 2);
    }

    private static void seekMostHits() {
        NameSeeker x = new NameSeeker();
        for (int call = 1; call <= 511; call++) {
            x.score(0);
        }
        due("HITS", x.count(7), 510);
        NameSeeker y = new NameSeeker();
        for (int call = 1; call <= 511; call++) {
            y.list(-1);
        }
        due("HITS of six", y.count(7), 510 * 6);
    }

    private static void seekMostMisses() {
        NameSeeker x = new NameSeeker();
        for (int i = 1; i <= 255; i++) {
            x.worth(i % 2, 0, 0);
            x.list(-1);
        }
        due("MISSES", x.count(8), 255 * 6);
        due("HITS", x.count(7), 0);
    }

    private static void promise18() {
        edge("18: i = -1: how many, 0 to 8", SoughtEdgeTest::listHowMany);
        edge("18: BAD: below -1", SoughtEdgeTest::listBad);
        edge("18: NONE: not so many", SoughtEdgeTest::listNone);
        edge("18: those that have a SCORE alone", SoughtEdgeTest::listScoresAlone);
        edge("18: SCORE 0 is one", () -> due("list", list(laid("s0,a;s0,_;")), "01"));
        edge("18: by 1 the greater SCORE, ahead of a PICK", SoughtEdgeTest::listByScore);
        edge("18: of like ones the later PICK", SoughtEdgeTest::listByPick);
        edge("18: never PICKED: last", SoughtEdgeTest::listNeverPicked);
        edge("18: then by 1 the shorter", SoughtEdgeTest::listByLength);
        edge("18: then the lower number", SoughtEdgeTest::listByNumber);
        edge("18: of 8, the other way round", SoughtEdgeTest::listOfEight);
    }

    private static void listHowMany() {
        due("none", type(new NameSeeker(), "q").list(-1), 0);
        due("of one", laid("s0,a;").list(-1), 1);
        due("of eight", laid(EIGHT).list(-1), 8);
        NameSeeker x = type(laid("s0,a;s0,ab;s0,abc;s0,abcd;s0,b;"), "abcd");
        for (int size = 4; size >= 1; size--) {
            due("by " + word(x), x.list(-1), 5 - size);
            x.untype();
        }
    }

    private static void listBad() {
        for (int i : new int[] {-2, -3, MIN}) {
            due("list " + i, new NameSeeker().list(i), BAD);
            due("of none " + i, type(new NameSeeker(), "q").list(i), BAD);
        }
    }

    private static void listNone() {
        for (int i : new int[] {6, 7, 8, MAX}) {
            due("of 6, " + i, new NameSeeker().list(i), NONE);
        }
        due("the last of 6", new NameSeeker().list(5), 3);
        due("the last of 8", laid(EIGHT).list(7), 7);
        due("behind the last of 8", laid(EIGHT).list(8), NONE);
        for (int i : new int[] {0, 1, MAX}) {
            due("of none, " + i, type(new NameSeeker(), "q").list(i), NONE);
        }
        NameSeeker x = type(laid("s0,a;s0,b;s0,a;"), "a");
        due("the last of 2", x.list(1), 2);
        due("behind the last of 2", x.list(2), NONE);
    }

    private static void listScoresAlone() {
        NameSeeker x = type(laid("s0,ba;s1,AB;s0,ab;s0,_;s0,b;"), "ab");
        due("how many", x.list(-1), 1);
        due("which", list(x), "2");
        due("the second", x.list(1), NONE);
    }

    private static void listByScore() {
        NameSeeker x = type(laid("s0,axb;s0,ab;w0,0,1;"), "ab");
        x.pick(0);
        due("the greater", list(x), "10");
        NameSeeker y = type(laid("s0,xa;s0,xxxx_a;w1,0,0;"), "a");
        y.pick(0);
        due("a BEGINNING of 1", list(y), "10");
        NameSeeker z = type(laid("s0,xa;s0,xxxx_a;w0,0,0;"), "a");
        z.pick(0);
        due("a BEGINNING of 0", list(z), "01");
    }

    private static void listByPick() {
        NameSeeker x = laid("s0,a;s0,a;s0,a;");
        x.pick(2);
        x.pick(1);
        due("the later", list(x), "120");
        x.pick(2);
        due("the later again", list(x), "210");
        x.pick(0);
        due("all PICKED", list(x), "021");
    }

    private static void listNeverPicked() {
        NameSeeker x = laid("s0,a;s0,abcdefghijkl;s0,b;");
        due("none PICKED", list(x), "021");
        x.pick(1);
        due("the longest, the first PICK", list(x), "102");
        x.forget(1);
        due("FORGOTTEN", list(x), "021");
    }

    private static void listByLength() {
        NameSeeker x = type(laid("s0,abc;s0,ab;s0,a;s0,abcd;"), "a");
        due("the shorter", list(x), "2103");
        x.rename(1, 1);
        x.rename(2, 3);
        due("whatever their KIND", list(x), "2103");
    }

    private static void listByNumber() {
        NameSeeker x = type(laid("s0,ab;s1,ac;s3,ad;s0,ab;"), "a");
        due("the lower", list(x), "0123");
        x.drop(0);
        due("DROPPED", list(x), "012");
    }

    private static void listOfEight() {
        NameSeeker x = type(laid("s0,abbbbbbb;s0,abbbbbb;s0,abbbbb;s0,abbbb;s0,abbb;s0,abb;s0,ab;s0,a;"), "a");
        due("the last is the shortest", list(x), "76543210");
        for (int n = 7; n >= 0; n--) {
            x.pick(n);
        }
        due("the first was PICKED last", list(x), "01234567");
        due("how many", x.list(-1), 8);
    }

    private static void promise18Sought() {
        edge("18: nothing is SOUGHT by BAD", SoughtEdgeTest::listBadSeeks);
        edge("18: SOUGHT all the same by NONE", SoughtEdgeTest::listNoneSeeks);
        edge("18: SOUGHT by -1 and by each i", SoughtEdgeTest::listSeeksAlways);
        edge("18: those that PASS alone", SoughtEdgeTest::listSeeksWhatPasses);
        edge("18: those that PASS without a WAY, too", SoughtEdgeTest::listSeeksWithoutWay);
        edge("18: no other call seeks", SoughtEdgeTest::othersDoNotSeek);
        edge("18: no call that is refused seeks", SoughtEdgeTest::refusedDoNotSeek);
        edge("18: 8 NAMES have 8 PLACES", SoughtEdgeTest::listOfEightPlaces);
    }

    private static void listBadSeeks() {
        NameSeeker x = new NameSeeker();
        x.list(-2);
        x.list(MIN);
        sought(x, "nothing", 0, 0);
        x.list(-1);
        sought(x, "six, none was known", 0, 6);
    }

    private static void listNoneSeeks() {
        NameSeeker x = new NameSeeker();
        x.list(6);
        sought(x, "all", 0, 6);
        x.list(MAX);
        sought(x, "all again", 6, 6);
        type(x, "fo").list(5);
        sought(x, "all that PASS", 6, 11);
    }

    private static void listSeeksAlways() {
        NameSeeker x = new NameSeeker();
        for (int i = -1; i <= 6; i++) {
            x.list(i);
            sought(x, "list " + i, 6 * (i + 1), 6);
        }
    }

    private static void listSeeksWhatPasses() {
        NameSeeker x = type(laid("s0,a;s0,b;s0,_;s0,ab;"), "a");
        x.list(-1);
        sought(x, "a", 0, 2);
        type(x, "b").list(-1);
        sought(x, "b", 0, 4);
        type(x, "ab").list(-1);
        sought(x, "ab", 0, 5);
        type(x, "c").list(-1);
        sought(x, "c", 0, 5);
        type(x, "").list(-1);
        sought(x, "the empty word", 0, 9);
    }

    private static void listSeeksWithoutWay() {
        NameSeeker x = type(laid("s1,AB;s0,ba;s0,ab;"), "ab");
        due("one has a WAY", x.list(-1), 1);
        sought(x, "EXACT ones and those in another order", 0, 3);
        due("twice the same letter", type(x, "aa").list(-1), 0);
        sought(x, "all PASS", 0, 6);
    }

    private static void othersDoNotSeek() {
        NameSeeker x = laid("s0,ab;s1,ab;s2,b;");
        type(x, "a");
        x.best(0, 0);
        x.ways(0);
        x.passes(0);
        x.passes(1);
        x.asked(0);
        x.brief(0);
        x.brief(2);
        x.pair(0, 1);
        x.name(0, 4);
        x.sign(0, 0);
        x.word(-1);
        x.pick(0);
        x.forget(0);
        x.drop(2);
        x.rename(0, 3);
        x.worth(1, 1, 1);
        x.keep();
        x.back();
        x.roll();
        x.untype();
        x.fault();
        x.lay();
        x.wipe();
        sought(x, "nothing", 0, 0);
    }

    private static void refusedDoNotSeek() {
        NameSeeker x = new NameSeeker();
        x.score(-1);
        x.score(6);
        x.best(0, 0);
        x.best(0, -1);
        x.best(6, 0);
        x.ways(6);
        x.passes(2);
        x.brief(6);
        x.pair(0, 6);
        x.rename(6, 0);
        x.worth(4, 3, 1);
        sought(x, "nothing", 0, 0);
    }

    private static void listOfEightPlaces() {
        for (String letters : new String[] {"", "a", "Z", "aa", "aAaAaA"}) {
            NameSeeker x = type(laid("s0,aaaaaaz;".repeat(8)), letters);
            x.list(-1);
            x.list(-1);
            sought(x, "by " + letters, 8, 8);
        }
    }

    private static void promise19() {
        edge("19: BAD: n", SoughtEdgeTest::bestNumbers);
        edge("19: BAD: k below 0", SoughtEdgeTest::bestBelow);
        edge("19: BAD is ahead of NONE", SoughtEdgeTest::bestBadAheadOfNone);
        edge("19: NONE: no WAY", SoughtEdgeTest::bestNoWay);
        edge("19: NONE: not so many, of 1 to 6", SoughtEdgeTest::bestNotSoMany);
        edge("19: NONE: an empty WORD has no places", SoughtEdgeTest::bestOfEmptyWord);
        edge("19: places 0 to 11", SoughtEdgeTest::bestPlaces);
        edge("19: of several that which is first, place by place", SoughtEdgeTest::bestFirst);
        edge("19: by 1 the greater WORTH", SoughtEdgeTest::bestByOne);
        edge("19: in a LOOSE NAME no GAP", SoughtEdgeTest::bestLoose);
        edge("19: in a TITLED NAME 2 B", SoughtEdgeTest::bestTitled);
        edge("19: in an EXACT NAME just the same letters", SoughtEdgeTest::bestExact);
    }

    private static void bestNumbers() {
        NameSeeker x = type(new NameSeeker(), "o");
        for (int n : new int[] {MIN, -2, -1, 6, 7, 8, MAX}) {
            due("best " + n, x.best(n, 0), BAD);
        }
        due("the last", x.best(5, 0), 1);
    }

    private static void bestBelow() {
        NameSeeker x = type(new NameSeeker(), "o");
        for (int k : new int[] {-1, -2, MIN}) {
            due("k " + k, x.best(0, k), BAD);
        }
        due("k 0", x.best(0, 0), 0);
    }

    private static void bestBadAheadOfNone() {
        NameSeeker x = type(new NameSeeker(), "q");
        due("k below 0, no WAY", x.best(0, -1), BAD);
        due("no NAME, no WAY", x.best(6, 0), BAD);
        due("no NAME, not so many", x.best(-1, 9), BAD);
        due("no WAY", x.best(0, 0), NONE);
        due("k below 0, an empty WORD", new NameSeeker().best(0, -1), BAD);
    }

    private static void bestNoWay() {
        NameSeeker x = type(laid("s0,ba;s1,AB;s0,a;"), "ab");
        for (int n = 0; n < 3; n++) {
            due("the first place of " + n, x.best(n, 0), NONE);
            due("the second place of " + n, x.best(n, 1), NONE);
        }
        due("no letter has a place when the last has none", type(laid("s0,abcde;"), "abcdef").best(0, 0), NONE);
    }

    private static void bestNotSoMany() {
        for (int size = 1; size <= 6; size++) {
            NameSeeker x = type(laid("s0,xabcdef;"), "abcdef".substring(0, size));
            due("the last of " + size, x.best(0, size - 1), size);
            for (int k : new int[] {size, size + 1, 6, 7, 12, MAX}) {
                due(k + " of " + size, x.best(0, k), NONE);
            }
        }
    }

    private static void bestOfEmptyWord() {
        for (int k : new int[] {0, 1, 6, MAX}) {
            due("k " + k, new NameSeeker().best(0, k), NONE);
        }
        NameSeeker x = type(laid("s0,a;"), "a");
        due("of one", x.best(0, 0), 0);
        x.untype();
        due("taken back", x.best(0, 0), NONE);
    }

    private static void best(String name, String letters, String want) {
        due("best of " + letters + " in " + name, best(type(laid(name), letters), 0), want);
    }

    private static void bestPlaces() {
        best("s0,a;", "a", "0");
        best("s0,bbbbbbbbbbba;", "a", "11");
        best("s0,axxxxxxxxxxb;", "ab", "0,11");
        best("s0,xxxxxxabcdef;", "abcdef", "6,7,8,9,10,11");
        best("s0,a_b_c_d_e_f_;w0,0,0;", "abcdef", "0,2,4,6,8,10");
    }

    private static void bestFirst() {
        best("s0,aaa;w0,0,0;", "a", "0");
        best("s0,xaxa;w0,0,0;", "a", "1");
        best("s0,abab;w0,0,0;", "ab", "0,1");
        best("s0,aabb;w0,0,0;", "ab", "0,2");
        best("s0,aabb;w0,1,0;", "ab", "1,2");
        best("s0,xabxab;w0,5,1;", "ab", "1,2");
        best("s0,abbc;w0,1,0;", "abc", "0,1,3");
        best("s0,xabbc;w0,0,9;", "abc", "1,2,4");
        best("s3,axbxb;w0,0,9;", "ab", "0,2");
        best("s0,aAaAaAaAaAaA;w0,0,0;", "aaaaaa", "0,1,2,3,4,5");
        best("s0,x_a_a;w3,0,0;", "a", "2");
    }

    private static void bestByOne() {
        best("s0,xa_a;w1,0,0;", "a", "3");
        best("s0,xa_a;w0,0,0;", "a", "1");
        best("s0,axbxab;w0,1,0;", "ab", "4,5");
        best("s0,xaxbxab;w0,0,1;", "ab", "5,6");
        best("s0,a_axb;w2,3,1;", "ab", "2,4");
        best("s0,xax_b_b;w1,0,1;", "ab", "1,4");
        best("s0,xbbab_b;w3,0,1;", "ab", "3,6");
        best("s0,xbbab_b;w2,0,1;", "ab", "3,4");
        best("s0,xbbab_b;w1,0,1;", "ab", "3,4");
    }

    private static void bestLoose() {
        best("s3,xaxxxxxab;w0,0,9;", "ab", "1,8");
        best("s0,xaxxxxxab;w0,0,9;", "ab", "7,8");
        best("s3,xaxxxxxab;w0,1,9;", "ab", "7,8");
    }

    private static void bestTitled() {
        best("s2,axxab;w1,0,1;", "ab", "3,4");
        best("s2,axab;w2,0,1;", "ab", "0,3");
        best("s0,axab;w1,0,1;", "ab", "2,3");
        best("s2,axab;w1,0,1;", "ab", "0,3");
    }

    private static void bestExact() {
        best("s1,aAb;w9,0,0;", "a", "0");
        best("s1,aAb;w0,0,0;", "A", "1");
        best("s1,ABab;w0,0,0;", "ab", "2,3");
        best("s0,ABab;w0,0,0;", "ab", "0,1");
    }

    private static void ways(String name, String letters, int want) {
        due("ways of " + letters + " in " + name, type(laid(name), letters).ways(0), want);
    }

    private static void promise20() {
        edge("20: BAD: n", SoughtEdgeTest::waysNumbers);
        edge("20: an empty WORD has one", SoughtEdgeTest::waysOfEmptyWord);
        edge("20: 0: none", SoughtEdgeTest::waysNone);
        edge("20: the most there are, 924", () -> ways("s0,aAaAaAaAaAaA;", "aaaaaa", 924));
        edge("20: of one letter, 1 to 12", SoughtEdgeTest::waysOfOneLetter);
        edge("20: each place once, rising", SoughtEdgeTest::waysRising);
        edge("20: in an EXACT NAME just the same letters", SoughtEdgeTest::waysExact);
    }

    private static void waysNumbers() {
        for (int n : new int[] {MIN, -2, -1, 6, 7, 8, MAX}) {
            due("ways " + n, new NameSeeker().ways(n), BAD);
        }
        due("the last", type(new NameSeeker(), "o").ways(5), 2);
    }

    private static void waysOfEmptyWord() {
        ways("s0,a;", "", 1);
        ways("s1,_;", "", 1);
        ways("s0,abcdefghijkl;", "", 1);
    }

    private static void waysNone() {
        ways("s0,a;", "b", 0);
        ways("s0,a;", "aa", 0);
        ways("s0,aaaaa;", "aaaaaa", 0);
        ways("s0,_;", "a", 0);
        ways("s0,abcdef;", "abcdeg", 0);
    }

    private static void waysOfOneLetter() {
        for (int size = 1; size <= 12; size++) {
            ways("s0," + "a".repeat(size) + ";", "A", size);
        }
    }

    private static void waysRising() {
        ways("s0,ab;", "ba", 0);
        ways("s0,aba;", "aa", 1);
        ways("s0,abab;", "ab", 3);
        ways("s0,aaaaaa;", "aaaaaa", 1);
        ways("s0,aaaaaaa;", "aaaaaa", 7);
        ways("s0,ababababab;", "ababab", 28);
    }

    private static void waysExact() {
        ways("s1,aAaA;", "a", 2);
        ways("s0,aAaA;", "a", 4);
        ways("s1,aAaA;", "aA", 3);
        ways("s1,AAAA;", "a", 0);
        ways("s3,aAaAaAaAaAaA;", "aaaaaa", 924);
        ways("s1,aAaAaAaAaAaA;", "aaaaaa", 1);
    }

    private static void promise21() {
        edge("21: BAD: what", SoughtEdgeTest::passesWhat);
        edge("21: bits 0 to 7", SoughtEdgeTest::passesBits);
        edge("21: an empty WORD: all", SoughtEdgeTest::passesOfEmptyWord);
        edge("21: none: 0", SoughtEdgeTest::passesNone);
        edge("21: PASS: whatever its KIND", SoughtEdgeTest::passesKinds);
        edge("21: PASS: whatever their order", SoughtEdgeTest::passesOrder);
        edge("21: PASS: great and small alike", SoughtEdgeTest::passesGreatAndSmall);
        edge("21: PASS: one sign is enough for many letters", SoughtEdgeTest::passesMany);
        edge("21: PASS: each letter", SoughtEdgeTest::passesEach);
        edge("21: numbers, not IDS", SoughtEdgeTest::passesDropped);
    }

    private static void passes(String names, String letters, int pass, int way) {
        NameSeeker x = type(laid(names), letters);
        due("that PASS by " + letters + ", of " + names, x.passes(0), pass);
        due("that have a WAY by " + letters + ", of " + names, x.passes(1), way);
    }

    private static void passesWhat() {
        for (int what : new int[] {MIN, -2, -1, 2, 3, MAX}) {
            due("what " + what, new NameSeeker().passes(what), BAD);
        }
        due("what 0", new NameSeeker().passes(0), 63);
        due("what 1", new NameSeeker().passes(1), 63);
    }

    private static void passesBits() {
        for (int n = 0; n < 8; n++) {
            passes(EIGHT, "" + (char) ('a' + n), 1 << n, 1 << n);
        }
        passes("s0,a;", "a", 1, 1);
    }

    private static void passesOfEmptyWord() {
        passes(EIGHT, "", 255, 255);
        passes("s0,_;s1,_;", "", 3, 3);
    }

    private static void passesNone() {
        passes(EIGHT, "z", 0, 0);
        passes("s0,_;", "a", 0, 0);
    }

    private static void passesKinds() {
        passes("s0,A;s1,A;s2,A;s3,A;", "a", 15, 13);
        passes("s0,a;s1,a;s2,a;s3,a;", "A", 15, 13);
    }

    private static void passesOrder() {
        passes("s0,ab;s0,ba;", "ba", 3, 2);
        passes("s0,abcdef;s0,fedcba;", "fedcba", 3, 2);
    }

    private static void passesGreatAndSmall() {
        for (int i = 0; i < 26; i++) {
            passes("s0," + (char) ('a' + i) + ";s1," + (char) ('A' + i) + ";", "" + (char) ('A' + i), 3, 3);
            passes("s0," + (char) ('a' + (i + 1) % 26) + ";", "" + (char) ('A' + i), 0, 0);
        }
    }

    private static void passesMany() {
        passes("s0,a;s0,aa;", "aa", 3, 2);
        passes("s0,a;", "aAaAaA", 1, 0);
        passes("s0,ba;", "abaab", 1, 0);
    }

    private static void passesEach() {
        passes("s0,abcde;s0,abcdef;", "abcdef", 2, 2);
        passes("s0,bcdef;s0,acdef;s0,abcef;", "abcdef", 0, 0);
    }

    private static void passesDropped() {
        NameSeeker x = type(laid(EIGHT), "h");
        x.drop(0);
        due("that PASS", x.passes(0), 64);
        due("that have a WAY", x.passes(1), 64);
        type(x, "");
        due("all", x.passes(0) + " " + x.passes(1), "127 127");
    }

    private static void promise22() {
        edge("22: BAD: k not 0 to 5", SoughtEdgeTest::askedNumbers);
        edge("22: NONE: not so many, 0 to 6", SoughtEdgeTest::askedNotSoMany);
        edge("22: the last 6", SoughtEdgeTest::askedLastSix);
        edge("22: by list(-1) alone", SoughtEdgeTest::askedByList);
        edge("22: THE WORD as it was", SoughtEdgeTest::askedAsItWas);
        edge("22: the same CODE is ASKED again", SoughtEdgeTest::askedAgain);
        edge("22: ASKED where THE LIST has none", SoughtEdgeTest::askedOfNone);
        edge("22: modulo 100003", SoughtEdgeTest::askedModulo);
        edge("22: CODES beyond an int", SoughtEdgeTest::askedGreat);
        edge("22: nothing takes what was ASKED back", SoughtEdgeTest::askedStays);
    }

    private static NameSeeker askedTimes(int times) {
        NameSeeker x = new NameSeeker();
        for (int i = 1; i <= times; i++) {
            type(x, wordOf(i)).list(-1);
        }
        return x;
    }

    private static void askedNumbers() {
        for (int times : new int[] {0, 1, 6, 7}) {
            for (int k : new int[] {MIN, -2, -1, 6, 7, MAX}) {
                due("k " + k + " of " + times, askedTimes(times).asked(k), BAD);
            }
        }
    }

    private static void askedNotSoMany() {
        for (int times = 0; times <= 6; times++) {
            NameSeeker x = askedTimes(times);
            for (int k = 0; k < 6; k++) {
                due("k " + k + " of " + times, x.asked(k), k < times ? times - k : NONE);
            }
        }
    }

    private static void askedLastSix() {
        due("six", asked(askedTimes(6)), "6 5 4 3 2 1");
        due("seven", asked(askedTimes(7)), "7 6 5 4 3 2");
        due("eight", asked(askedTimes(8)), "8 7 6 5 4 3");
        due("forty", asked(askedTimes(40)), "40 39 38 37 36 35");
    }

    private static void askedByList() {
        NameSeeker x = type(new NameSeeker(), "o");
        x.list(0);
        x.list(5);
        x.list(6);
        x.list(MAX);
        x.list(-2);
        x.list(MIN);
        x.score(0);
        x.best(0, 0);
        x.ways(0);
        x.passes(0);
        x.brief(0);
        due("nothing", asked(x), "-4 -4 -4 -4 -4 -4");
        x.list(-1);
        due("one", asked(x), "15 -4 -4 -4 -4 -4");
    }

    private static void askedAsItWas() {
        NameSeeker x = type(new NameSeeker(), "a");
        x.list(-1);
        x.type('b');
        x.list(-1);
        x.untype();
        x.untype();
        x.list(-1);
        x.type('c');
        due("asked", asked(x), "0 55 1 -4 -4 -4");
    }

    private static void askedAgain() {
        NameSeeker x = type(new NameSeeker(), "a");
        x.list(-1);
        x.list(-1);
        due("twice", asked(x), "1 1 -4 -4 -4 -4");
        type(x, "b").list(-1);
        type(x, "a").list(-1);
        due("later", asked(x), "1 2 1 1 -4 -4");
    }

    private static void askedOfNone() {
        NameSeeker x = type(new NameSeeker(), "q");
        due("how many", x.list(-1), 0);
        due("asked", asked(x), "17 -4 -4 -4 -4 -4");
        type(x, "").list(-1);
        due("the empty word is CODE 0", asked(x), "0 17 -4 -4 -4 -4");
    }

    /** The words of CODES 100002, 100003, 100004 and of twice 100003 and what is about it, where there are such. */
    private static void askedModulo() {
        int seen = 0;
        for (long code : new long[] {100002, 100003, 100004, 200005, 200006, 200007, 300008, 300009, 300010}) {
            if (wordOf(code) != null) {
                NameSeeker x = type(new NameSeeker(), wordOf(code));
                x.list(-1);
                due("CODE " + code, x.asked(0), (int) (code % TOLD_MODULO));
                due("told of THE WORD", x.count(12), (int) (code % TOLD_MODULO));
                seen++;
            }
        }
        due("such words there are", seen >= 5, true);
        due("of CODE 100002 and 100003", wordOf(100002) + wordOf(100003), "IERIES");
    }

    private static void askedGreat() {
        for (String letters : new String[] {"ZZZZZZ", "ZZZZZz", "zzzzzz", "aaaaaa", "ZZZZZ", "AAAAAA", "eZZZZZ", "fAaaaa"}) {
            NameSeeker x = type(new NameSeeker(), letters);
            x.list(-1);
            due(letters, x.asked(0), (int) (code(letters) % TOLD_MODULO));
        }
        due("the greatest", type(new NameSeeker(), "ZZZZZZ").count(12), (int) (22164361128L % TOLD_MODULO));
    }

    private static void askedStays() {
        NameSeeker x = askedTimes(6);
        x.pick(0);
        x.drop(0);
        x.rename(0, 3);
        x.worth(0, 0, 0);
        x.keep();
        x.back();
        x.untype();
        x.asked(0);
        x.lay();
        due("asked", asked(x), "6 5 4 3 2 1");
    }
}

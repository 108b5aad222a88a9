/** Each sentence of promises 23 to 27, SHORT, PAIR, what is KEPT and counted, that names an edge: a test of its own. */
public final class KeptEdgeTest extends Checks {
    private static final String EIGHT = "s0,a;s1,b;s2,c;s3,d;s0,e;s1,f;s2,g;s3,h;";

    public static void main(String[] args) {
        promise23();
        promise24();
        promise25();
        promise26();
        promise27();
        end();
    }

    private static void brief(String names, int n, int want) {
        due("brief " + n + " of " + names, laid(names).brief(n), want);
    }

    private static void promise23() {
        edge("23: BAD: n", KeptEdgeTest::briefNumbers);
        edge("23: words of 1 letter: 27 times its number, a to z", KeptEdgeTest::briefOfOne);
        edge("23: 1, then 2 letters", KeptEdgeTest::briefOneAheadOfTwo);
        edge("23: a ahead of b", KeptEdgeTest::briefOrder);
        edge("23: of 2 letters the first and the last", KeptEdgeTest::briefOfTwo);
        edge("23: NONE: none of 2 letters", KeptEdgeTest::briefNone);
        edge("23: small letters alone", KeptEdgeTest::briefSmall);
        edge("23: the first of THE LIST, not the second", KeptEdgeTest::briefFirst);
        edge("23: PICKS as they are", KeptEdgeTest::briefPicks);
        edge("23: KIND and WORTH as they are", KeptEdgeTest::briefWorth);
        edge("23: the only one", KeptEdgeTest::briefOnly);
        edge("23: of 8", KeptEdgeTest::briefOfEight);
        edge("23: THE WORD is another's matter", KeptEdgeTest::briefWord);
        edge("23: nothing is SOUGHT or ASKED", KeptEdgeTest::briefSeeksNothing);
    }

    private static void briefNumbers() {
        for (int n : new int[] {MIN, -2, -1, 6, 7, 8, MAX}) {
            due("brief " + n, new NameSeeker().brief(n), BAD);
        }
        due("the last of 8", laid(EIGHT).brief(7), 27 * 8);
        due("no ninth", laid(EIGHT).brief(8), BAD);
        NameSeeker x = laid("s0,a;s0,b;");
        x.drop(0);
        due("DROPPED", x.brief(1), BAD);
        due("left", x.brief(0), 54);
    }

    private static void briefOfOne() {
        for (int i = 1; i <= 26; i++) {
            brief("s0," + (char) ('a' + i - 1) + ";", 0, 27 * i);
            brief("s0," + (char) ('A' + i - 1) + ";", 0, 27 * i);
            brief("s2,_" + (char) ('a' + i - 1) + "_;", 0, 27 * i);
        }
    }

    private static void briefOneAheadOfTwo() {
        brief("s0,aaz;s0,a;", 0, 27 * 26);
        brief("s0,zaa;s0,a;", 0, 27 * 26);
        brief("s0,aab;s0,a;s0,b;", 0, 27 + 1);
    }

    private static void briefOrder() {
        brief("s0,zyx;", 0, 27 * 24);
        brief("s0,ba;", 0, 27);
        brief("s0,ba;s0,a;", 0, 27 * 2);
        brief("s0,bca;s0,a;s0,b;s0,c;", 0, 27 * 2 + 1);
        brief("s0,cba;s0,a;s0,b;s0,c;", 0, 27 * 2 + 1);
    }

    private static void briefOfTwo() {
        brief("s0,aa;s0,a;", 0, 28);
        brief("s0,ab;s0,a;s0,b;", 0, 29);
        brief("s0,az;s0,a;s0,z;", 0, 27 + 26);
        brief("s0,ba;s0,a;s0,b;", 0, 27 * 2 + 1);
        brief("s0,za;s0,a;s0,z;", 0, 27 * 26 + 1);
        brief("s0,zz;s0,z;", 0, 27 * 26 + 26);
        brief("s0,zy;s0,z;s0,y;", 0, 27 * 26 + 25);
    }

    private static void briefNone() {
        brief("s0,ab;s0,ab;", 1, NONE);
        brief("s0,abc;s0,ab;s0,ac;s0,bc;", 0, NONE);
        brief("s0,_;", 0, NONE);
        brief("s0,aaa;s0,aa;s0,a;", 0, NONE);
        brief("s0,a;s0,a;", 1, NONE);
    }

    private static void briefSmall() {
        brief("s1,A;", 0, NONE);
        brief("s1,ABZ;", 0, NONE);
        brief("s1,Az;", 0, 27 * 26);
        brief("s0,A;", 0, 27);
        brief("s1,AaA;s0,a;", 0, NONE);
    }

    private static void briefFirst() {
        brief("s0,a;s0,a;", 0, 27);
        brief("s0,ab;s0,a;", 0, 54);
        brief("s0,ab;s0,a;s0,b;s0,abc;", 0, 27 + 2);
        brief("s0,xa;s0,a;w1,0,0;", 0, 27 * 24);
        brief("s0,_xxa;s0,aaa;w0,0,0;", 0, 27 * 24);
        brief("s0,xa;s0,aaa;w0,0,0;", 0, 27);
    }

    private static void briefPicks() {
        NameSeeker x = laid("s0,a;s0,a;s0,a;");
        due("never PICKED", x.brief(0) + " " + x.brief(1) + " " + x.brief(2), "27 -4 -4");
        x.pick(2);
        due("the third", x.brief(0) + " " + x.brief(1) + " " + x.brief(2), "-4 -4 27");
        x.pick(1);
        due("the second", x.brief(0) + " " + x.brief(1) + " " + x.brief(2), "-4 27 -4");
        x.forget(1);
        due("FORGOTTEN", x.brief(0) + " " + x.brief(1) + " " + x.brief(2), "-4 -4 27");
        x.forget(2);
        due("all FORGOTTEN", x.brief(0) + " " + x.brief(1) + " " + x.brief(2), "27 -4 -4");
        NameSeeker y = laid("s0,xa;s0,a;w1,0,0;");
        y.pick(0);
        due("a PICK does not beat a SCORE", y.brief(0), 27 * 24);
    }

    private static void briefWorth() {
        NameSeeker x = laid("s0,a;s0,xa_a;w0,0,0;");
        due("as good, but longer", x.brief(1), 27 * 24);
        x.rename(0, 1);
        due("EXACT ones have small letters, too", x.brief(0), 27);
        NameSeeker y = laid("s0,aa;s2,abcd;w1,0,0;");
        due("TITLED ahead of shorter", y.brief(1), 27);
        due("the shorter then", y.brief(0), 28);
        y.worth(0, 0, 0);
        due("B 0: the shorter", y.brief(0), 27);
        due("the TITLED one then", y.brief(1), 54);
        y.rename(1, 0);
        y.worth(1, 0, 0);
        due("PLAIN: the shorter", y.brief(0), 27);
    }

    private static void briefOnly() {
        NameSeeker x = laid("s0,ab;s0,a;");
        due("of two", x.brief(0), 54);
        x.drop(1);
        due("of one", x.brief(0), 27);
    }

    private static void briefOfEight() {
        NameSeeker x = laid("s0,xa;s0,xb;s0,xc;s0,xd;s0,xe;s0,xf;s0,xg;s0,x;");
        for (int n = 0; n < 7; n++) {
            due("brief " + n, x.brief(n), 27 * (n + 1));
        }
        due("brief 7", x.brief(7), 27 * 24);
    }

    private static void briefWord() {
        NameSeeker x = type(laid("s0,ab;s0,a;"), "zzzzzz");
        x.keep();
        due("as without", x.brief(0), 54);
        due("THE WORD stays", word(x), "zzzzzz");
        due("KEPT stays", type(x, "a").back() + word(x), "0zzzzzz");
    }

    private static void briefSeeksNothing() {
        NameSeeker x = new NameSeeker();
        for (int n = 0; n < 6; n++) {
            x.brief(n);
        }
        sought(x, "nothing", 0, 0);
        due("asked", x.asked(0), NONE);
        x.list(-1);
        sought(x, "none was known", 0, 6);
    }

    private static void pair(String names, int want) {
        NameSeeker x = laid(names);
        due("pair of " + names, x.pair(0, 1), want);
        due("the other way round", x.pair(1, 0), want);
    }

    private static void promise24() {
        edge("24: BAD: n", KeptEdgeTest::pairFirst);
        edge("24: BAD: m", KeptEdgeTest::pairSecond);
        edge("24: letters a to z, great or small", KeptEdgeTest::pairLetters);
        edge("24: a _ is no letter", () -> pair("s0,_;s0,__;", 0));
        edge("24: none: 0", () -> pair("s0,abc;s0,xyz;", 0));
        edge("24: the most there are, 12", () -> pair("s0,abcdefghijkl;s1,LKJIHGFEDCBA;", 12));
        edge("24: a letter once, however often it stands there", () -> pair("s0,aAaA;s0,AAaa;", 1));
        edge("24: that both have", () -> pair("s0,abc_d;s0,c_dx;", 2));
        edge("24: of a NAME and itself", KeptEdgeTest::pairOfItself);
        edge("24: whatever their KIND", KeptEdgeTest::pairKinds);
    }

    private static void pairFirst() {
        for (int n : new int[] {MIN, -2, -1, 6, 7, 8, MAX}) {
            due("pair " + n + ", 0", new NameSeeker().pair(n, 0), BAD);
            due("pair " + n + " and itself", new NameSeeker().pair(n, n), BAD);
        }
        due("the last", new NameSeeker().pair(5, 0), 3);
    }

    private static void pairSecond() {
        for (int m : new int[] {MIN, -2, -1, 6, 7, 8, MAX}) {
            due("pair 0, " + m, new NameSeeker().pair(0, m), BAD);
        }
        due("the last", new NameSeeker().pair(0, 5), 3);
        due("the last of 8", laid("s0,z;".repeat(8)).pair(0, 7), 1);
        due("no ninth", laid("s0,z;".repeat(8)).pair(0, 8), BAD);
    }

    private static void pairLetters() {
        for (int i = 0; i < 26; i++) {
            char small = (char) ('a' + i), great = (char) ('A' + i), next = (char) ('a' + (i + 1) % 26);
            pair("s0," + small + ";s0," + small + ";", 1);
            pair("s0," + small + ";s0," + great + ";", 1);
            pair("s0," + great + ";s0," + great + ";", 1);
            pair("s0," + great + ";s0," + next + ";", 0);
        }
    }

    private static void pairOfItself() {
        NameSeeker x = laid("s0,a;s0,_;s0,abcdefghijkl;s0,aAbB;");
        due("pairs", x.pair(0, 0) + " " + x.pair(1, 1) + " " + x.pair(2, 2) + " " + x.pair(3, 3), "1 0 12 2");
    }

    private static void pairKinds() {
        NameSeeker x = laid("s0,a;s1,A;s2,a;s3,A;");
        for (int n = 0; n < 4; n++) {
            for (int m = 0; m < 4; m++) {
                due("pair " + n + ", " + m, x.pair(n, m), 1);
            }
        }
    }

    private static void promise25() {
        edge("25: how many: 1, 2", KeptEdgeTest::keepHowMany);
        edge("25: FULL: 2", KeptEdgeTest::keepFull);
        edge("25: nothing changes by FULL", KeptEdgeTest::keepFullChangesNothing);
        edge("25: THE WORD of 0 letters and of 6", KeptEdgeTest::keepWords);
        edge("25: THE WORD stays", KeptEdgeTest::keepLeavesWord);
        edge("25: room again after back", KeptEdgeTest::keepAfterBack);
        edge("25: what is typed then does not change it", KeptEdgeTest::keepStays);
    }

    private static void keepHowMany() {
        NameSeeker x = new NameSeeker();
        due("none", x.count(10), 0);
        due("the first", x.keep() + " " + x.count(10), "1 1");
        due("the second", x.keep() + " " + x.count(10), "2 2");
    }

    private static void keepFull() {
        NameSeeker x = type(new NameSeeker(), "a");
        x.keep();
        due("the second", x.keep(), 2);
        due("the third", x.keep(), FULL);
        due("the fourth", x.keep(), FULL);
    }

    private static void keepFullChangesNothing() {
        NameSeeker x = type(new NameSeeker(), "a");
        x.keep();
        type(x, "bb").keep();
        type(x, "ccc").keep();
        due("how many", x.count(10), 2);
        due("THE WORD", word(x), "ccc");
        due("the second", x.back() + word(x), "1bb");
        due("the first", x.back() + word(x), "0a");
        due("no third", x.back() + word(x), "-2a");
    }

    private static void keepWords() {
        NameSeeker x = new NameSeeker();
        due("of 0 letters", x.keep(), 1);
        due("of 6 letters", type(x, "aZbYcX").keep(), 2);
        type(x, "q");
        due("of 6", x.back() + word(x) + x.count(12), "1aZbYcX" + code("aZbYcX") % 100003);
        due("of 0", x.back() + word(x) + x.count(12), "00");
        due("nothing to take back", x.untype(), NO);
    }

    private static void keepLeavesWord() {
        NameSeeker x = type(new NameSeeker(), "aBc");
        x.keep();
        due("the word", word(x), "aBc");
        due("the last letter", x.untype(), (int) 'c');
    }

    private static void keepAfterBack() {
        NameSeeker x = new NameSeeker();
        x.keep();
        x.keep();
        x.back();
        due("one more", x.keep(), 2);
        due("no third", x.keep(), FULL);
        x.back();
        x.back();
        due("two more", x.keep() + " " + x.keep() + " " + x.keep(), "1 2 " + FULL);
    }

    private static void keepStays() {
        NameSeeker x = type(new NameSeeker(), "ab");
        x.keep();
        x.type('c');
        x.keep();
        x.untype();
        x.untype();
        x.type('Z');
        due("the second", x.back() + word(x), "1abc");
        x.untype();
        x.untype();
        x.untype();
        due("the first", x.back() + word(x), "0ab");
    }

    private static void promise26() {
        edge("26: NO: nothing is KEPT", KeptEdgeTest::backNo);
        edge("26: nothing changes by NO", KeptEdgeTest::backNoChangesNothing);
        edge("26: how many are left: 1, 0", KeptEdgeTest::backHowMany);
        edge("26: as KEPT last", KeptEdgeTest::backLast);
        edge("26: in place of a longer and of a shorter word", KeptEdgeTest::backLengths);
        edge("26: the SEED, ASKED and PLACES stay", KeptEdgeTest::backLeavesTheRest);
    }

    private static void backNo() {
        NameSeeker x = type(new NameSeeker(), "a");
        due("at first", x.back(), NO);
        x.keep();
        due("of one", x.back(), 0);
        due("of none", x.back(), NO);
    }

    private static void backNoChangesNothing() {
        NameSeeker x = type(new NameSeeker(), "aB");
        x.keep();
        x.back();
        x.type('c');
        x.back();
        due("the word", word(x), "aBc");
        due("how many", x.count(10), 0);
        due("keep", x.keep(), 1);
    }

    private static void backHowMany() {
        NameSeeker x = new NameSeeker();
        x.keep();
        x.keep();
        due("of two", x.back() + " " + x.count(10), "1 1");
        due("of one", x.back() + " " + x.count(10), "0 0");
        due("of none", x.back() + " " + x.count(10), "-2 0");
    }

    private static void backLast() {
        NameSeeker x = type(new NameSeeker(), "a");
        x.keep();
        type(x, "b").keep();
        type(x, "c");
        due("the last", x.back() + word(x), "1b");
        type(x, "d").keep();
        type(x, "e");
        due("the one KEPT since", x.back() + word(x), "1d");
        due("the first", x.back() + word(x), "0a");
    }

    private static void backLengths() {
        NameSeeker x = type(new NameSeeker(), "a");
        x.keep();
        due("in place of six", type(x, "uvwxyz").back() + word(x) + x.word(1), "0a" + NONE);
        type(x, "uvwxyz").keep();
        due("in place of one", type(x, "a").back() + word(x) + x.type('b'), "0uvwxyz" + FULL);
        type(x, "").keep();
        due("none in place of six", type(x, "uvwxyz").back() + word(x) + x.untype(), "0" + NO);
    }

    private static void backLeavesTheRest() {
        NameSeeker x = new NameSeeker();
        x.list(-1);
        x.keep();
        x.roll();
        x.back();
        due("the SEED", x.count(9), 20264);
        due("ASKED", x.asked(0) + " " + x.asked(1), "0 " + NONE);
        x.list(-1);
        sought(x, "known as ahead of it", 6, 6);
    }

    private static void promise27() {
        edge("27: BAD: what", KeptEdgeTest::countWhat);
        edge("27: 0 NAMES, 1 to 8", KeptEdgeTest::countNames);
        edge("27: 1 B, 2 R, 3 G, 0 to 9", KeptEdgeTest::countWorths);
        edge("27: 4 NAMES LAID so far", KeptEdgeTest::countLaid);
        edge("27: 5 the TICK, from 0", KeptEdgeTest::countTick);
        edge("27: 6 the AGE, from 1", KeptEdgeTest::countAge);
        edge("27: 7 HITS, 8 MISSES, from 0", KeptEdgeTest::countSought);
        edge("27: 9 the SEED, from 1", KeptEdgeTest::countSeed);
        edge("27: 10 KEPT, 0 to 2", KeptEdgeTest::countKept);
        edge("27: 11 letters of THE TEXT, 0 to 200", KeptEdgeTest::countText);
        edge("27: 12 the CODE of THE WORD, modulo 100003", KeptEdgeTest::countCode);
    }

    private static void countWhat() {
        for (int what : new int[] {MIN, -2, -1, 13, 14, MAX}) {
            due("count " + what, new NameSeeker().count(what), BAD);
        }
        for (int what = 0; what <= 12; what++) {
            due("count " + what, new NameSeeker().count(what) != BAD, true);
        }
    }

    private static void countNames() {
        NameSeeker x = laid(EIGHT);
        due("of 8", x.count(0), 8);
        for (int left = 7; left >= 1; left--) {
            x.drop(0);
            due("of " + left, x.count(0), left);
        }
        x.drop(0);
        due("the only one", x.count(0), 1);
        due("at first", new NameSeeker().count(0), 6);
    }

    private static void countWorths() {
        for (int figure = 0; figure <= 9; figure++) {
            NameSeeker x = laid("s0,a;w" + figure + ",5,6;");
            due("B " + figure, x.count(1) + " " + x.count(2) + " " + x.count(3), figure + " 5 6");
            NameSeeker y = laid("s0,a;w5," + figure + ",6;");
            due("R " + figure, y.count(1) + " " + y.count(2) + " " + y.count(3), "5 " + figure + " 6");
            NameSeeker z = laid("s0,a;w5,6," + figure + ";");
            due("G " + figure, z.count(1) + " " + z.count(2) + " " + z.count(3), "5 6 " + figure);
        }
    }

    private static void countLaid() {
        NameSeeker x = write(new NameSeeker(), "s0,a;s0,b;");
        due("at first", x.count(4), 6);
        x.lay();
        due("two more", x.count(4), 8);
        x.drop(0);
        due("DROPPED", x.count(4), 8);
        x.lay();
        due("two more again", x.count(4), 10);
        write(x, EIGHT).lay();
        due("eight more", x.count(4), 18);
        write(x, "x").lay();
        due("not LAID", x.count(4), 18);
    }

    private static void countTick() {
        NameSeeker x = new NameSeeker();
        due("at first", x.count(5), 0);
        x.pick(5);
        due("one", x.count(5), 1);
        x.pick(6);
        due("BAD", x.count(5), 1);
        x.forget(5);
        due("FORGOTTEN", x.count(5), 1);
    }

    private static void countAge() {
        NameSeeker x = new NameSeeker();
        due("at first", x.count(6), 1);
        x.pick(0);
        x.drop(0);
        x.type('a');
        x.list(-1);
        due("no act but these", x.count(6), 1);
        x.worth(0, 0, 0);
        x.rename(0, 3);
        write(x, "s0,a;").lay();
        due("worth, rename, lay", x.count(6), 4);
    }

    private static void countSought() {
        NameSeeker x = new NameSeeker();
        sought(x, "at first", 0, 0);
        x.score(0);
        sought(x, "a MISS", 0, 1);
        x.score(0);
        sought(x, "a HIT", 1, 1);
        x.list(-1);
        sought(x, "of both", 2, 6);
    }

    private static void countSeed() {
        NameSeeker x = new NameSeeker();
        due("at first", x.count(9), 1);
        x.roll();
        due("ROLLED", x.count(9), (7919 + 12345) % 65521);
    }

    private static void countKept() {
        NameSeeker x = new NameSeeker();
        due("at first", x.count(10), 0);
        x.keep();
        x.keep();
        x.keep();
        due("two", x.count(10), 2);
        x.back();
        x.back();
        x.back();
        due("none", x.count(10), 0);
    }

    private static void countText() {
        NameSeeker x = new NameSeeker();
        due("at first", x.count(11), 0);
        write(x, "x".repeat(199));
        due("199", x.count(11), 199);
        x.write('x');
        due("200", x.count(11), 200);
        x.write('x');
        due("FULL", x.count(11), 200);
        x.wipe();
        due("wiped", x.count(11), 0);
    }

    private static void countCode() {
        due("empty", new NameSeeker().count(12), 0);
        String[] words = {"a", "z", "A", "Z", "aa", "ZZ", "IER", "IES", "IET"};
        int[] codes = {1, 26, 27, 52, 54, 2808, 100002, 0, 1};
        for (int i = 0; i < words.length; i++) {
            due("CODE of " + words[i], type(new NameSeeker(), words[i]).count(12), codes[i]);
        }
        for (String letters : new String[] {"ZZZ", "aaaa", "ZZZZZ", "aaaaaa", "eZZZZZ", "zzzzzz", "AAAAAA", "ZZZZZZ"}) {
            due("CODE of " + letters, type(new NameSeeker(), letters).count(12), (int) (code(letters) % 100003));
        }
    }
}

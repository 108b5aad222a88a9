/** Each sentence of promises 1 to 7, and of what a TEXT is, that names an edge: a test of its own. */
public final class TextEdgeTest extends Checks {
    private static final String EIGHT = "s0,a;s1,b;s2,c;s3,d;s0,e;s1,f;s2,g;s3,h;";
    /** 27 ITEMS of seven letters and one of eleven: 200. */
    private static final String LONGEST = "s1,abcdefg;" + "w1,2,3;".repeat(26) + "w4,5,6;";

    public static void main(String[] args) {
        promise1();
        promise2();
        promise3();
        promise4();
        promise5();
        promise5WhatGoesOn();
        promise6();
        promise7();
        end();
    }

    private static void promise1() {
        edge("1: TICK, HITS, MISSES 0, AGE 1, SEED 1", TextEdgeTest::newCounts);
        edge("1: at first openFile .. poof are LAID, IDS 0 to 5", TextEdgeTest::newNames);
        edge("1: at first w4,3,1", () -> due("worth", new NameSeeker().worth(4, 3, 1), NO));
        edge("1: PLACES empty", TextEdgeTest::newPlaces);
        edge("1: nothing ASKED", () -> due("asked", asked(new NameSeeker()), "-4 -4 -4 -4 -4 -4"));
        edge("1: THE TEXT empty", TextEdgeTest::newText);
        edge("1: THE WORD of no letter", () -> due("word", new NameSeeker().word(-1), 0));
        edge("1: nothing KEPT", () -> due("back", new NameSeeker().back(), NO));
        edge("1: no NAME was PICKED", TextEdgeTest::newPicks);
        edge("1: a second one sets back what goes on", TextEdgeTest::secondOne);
        edge("1: a second one leaves the first as it is", TextEdgeTest::firstOne);
    }

    private static void newCounts() {
        due("counts", counts(new NameSeeker()), "6 4 3 1 6 0 1 0 0 1 0 0 0");
        due("the first TICK", new NameSeeker().pick(0), 1);
        due("the first AGE", new NameSeeker().worth(0, 0, 0), 2);
        due("the first SEED", new NameSeeker().roll(), (7919 + 12345) % 65521 % 26 + 'a');
    }

    private static void newNames() {
        due("names", names(new NameSeeker()), "0openFile,8,0,0,17 0open_file,9,1,0,33 1OpenFolio,9,2,0,17"
            + " 2lastOpened,10,3,0,17 3find_Of,7,4,0,33 0poof,4,5,0,1");
    }

    private static void newPlaces() {
        NameSeeker x = new NameSeeker();
        for (int n = 0; n < 6; n++) {
            x.score(n);
        }
        sought(x, "the first SCORES, of the empty word, too", 0, 6);
        for (int code = 1; code <= 52; code++) {
            due("word of CODE " + code, isKnown(new NameSeeker(), wordOf(code), 0), false);
        }
    }

    private static void newText() {
        due("letters", new NameSeeker().wipe(), 0);
        due("fault", new NameSeeker().fault(), NONE);
        due("what is LAID at first is not THE TEXT", new NameSeeker().lay(), NO);
        due("the first letter", new NameSeeker().write('s'), 1);
    }

    private static void newPicks() {
        for (int n = 0; n < 6; n++) {
            due("forget " + n, new NameSeeker().forget(n), NO);
        }
    }

    private static NameSeeker used() {
        NameSeeker x = laid("s0,ab;");
        x.pick(0);
        x.worth(1, 1, 1);
        x.roll();
        x.keep();
        x.list(-1);
        x.list(-1);
        return x;
    }

    private static void secondOne() {
        used();
        NameSeeker second = new NameSeeker();
        String asked = asked(second);
        due("all that a second one tells", counts(second) + " " + names(second) + asked, "6 4 3 1 6 0 1 0 0 1 0 0 0 "
            + "0openFile,8,0,0,17 0open_file,9,1,0,33 1OpenFolio,9,2,0,17 2lastOpened,10,3,0,17 3find_Of,7,4,0,33 0poof,4,5,0,1"
            + "-4 -4 -4 -4 -4 -4");
        second.list(-1);
        sought(second, "a second one knows no SCORE", 0, 6);
        due("a second one's roll", second.roll(), 'a' + 20264 % 26);
        due("a second one's pick", second.pick(5), 1);
        due("a second one's IDS", write(second, "s0,a;").lay() + " " + second.name(0, 2), "1 6");
    }

    private static void firstOne() {
        NameSeeker first = used();
        NameSeeker second = new NameSeeker();
        second.pick(1);
        second.roll();
        second.worth(0, 0, 0);
        due("all that the first tells", all(first), all(used()));
    }

    private static void promise2() {
        edge("2: a letter is 32 at least", TextEdgeTest::writeLeast);
        edge("2: a letter is 126 at most", TextEdgeTest::writeMost);
        edge("2: how long it is, 1 to 200", TextEdgeTest::writeLengths);
        edge("2: FULL: the 201st", TextEdgeTest::writeFull);
        edge("2: nothing changes by FULL", TextEdgeTest::writeFullChangesNothing);
        edge("2: nothing changes by BAD", TextEdgeTest::writeBadChangesNothing);
        edge("2: BAD is ahead of FULL", TextEdgeTest::writeBadAheadOfFull);
        edge("2: room again after wipe", TextEdgeTest::writeAfterWipe);
    }

    private static void writeLeast() {
        due("32", new NameSeeker().write(32), 1);
        for (int letter : new int[] {31, 10, 0, -1, -224, MIN}) {
            due("write " + letter, new NameSeeker().write(letter), BAD);
        }
    }

    private static void writeMost() {
        due("126", new NameSeeker().write(126), 1);
        for (int letter : new int[] {127, 128, 255, 256 + 's', 65536 + 's', MAX}) {
            due("write " + letter, new NameSeeker().write(letter), BAD);
        }
    }

    private static void writeLengths() {
        NameSeeker x = new NameSeeker();
        for (int i = 1; i <= 200; i++) {
            due("letter " + i, x.write(31 + (i + 94) % 95 + 1), i);
        }
    }

    private static void writeFull() {
        NameSeeker x = write(new NameSeeker(), "q".repeat(199));
        due("the 200th", x.write('q'), 200);
        due("the 201st", x.write('q'), FULL);
        due("the 202nd", x.write('q'), FULL);
        due("how long", x.count(11), 200);
    }

    private static void writeFullChangesNothing() {
        NameSeeker x = write(new NameSeeker(), LONGEST);
        due("letters", x.count(11), 200);
        for (char letter : "s0,z;".toCharArray()) {
            due("one more", x.write(letter), FULL);
        }
        due("fault", x.fault(), NONE);
        due("lay", x.lay(), 1);
        due("names", names(x), "1abcdefg,7,6,0,1");
        due("worth", x.worth(4, 5, 6), NO);
    }

    private static void writeBadChangesNothing() {
        NameSeeker x = write(new NameSeeker(), "s0,a");
        due("31", x.write(31), BAD);
        due("127", x.write(127), BAD);
        due("how long", x.write(';'), 5);
        due("lay", x.lay() + signs(x, 0), "1a");
    }

    private static void writeBadAheadOfFull() {
        NameSeeker x = write(new NameSeeker(), LONGEST);
        due("31", x.write(31), BAD);
        due("127", x.write(127), BAD);
        due("32", x.write(32), FULL);
        due("126", x.write(126), FULL);
    }

    private static void writeAfterWipe() {
        NameSeeker x = write(new NameSeeker(), LONGEST);
        due("wipe", x.wipe(), 200);
        due("write", x.write('s'), 1);
        due("all 200 again", write(x, LONGEST).count(11), 200);
        due("one more", x.write('s'), FULL);
    }

    private static void promise3() {
        edge("3: how long it was: 0", () -> due("wipe", new NameSeeker().wipe(), 0));
        edge("3: how long it was: 1", () -> due("wipe", writtenOnly("x").wipe(), 1));
        edge("3: how long it was: 200", () -> due("wipe", writtenOnly(LONGEST).wipe(), 200));
        edge("3: THE TEXT is empty then", TextEdgeTest::wipeEmpties);
        edge("3: what is LAID stays", TextEdgeTest::wipeLeavesWhatIsLaid);
    }

    private static NameSeeker writtenOnly(String text) {
        NameSeeker x = new NameSeeker();
        for (char letter : text.toCharArray()) {
            x.write(letter);
        }
        return x;
    }

    private static void wipeEmpties() {
        NameSeeker x = writtenOnly("s0,abc;x");
        x.wipe();
        due("how many", x.count(11), 0);
        due("fault", x.fault(), NONE);
        due("lay", x.lay(), NO);
        due("wipe", x.wipe(), 0);
        due("what was there does not come back", writtenAfter(x, "s0,q;") + signs(x, 0), "1q");
    }

    private static int writtenAfter(NameSeeker x, String text) {
        for (char letter : text.toCharArray()) {
            x.write(letter);
        }
        return x.lay();
    }

    private static void wipeLeavesWhatIsLaid() {
        NameSeeker x = laid("s0,ab;w9,0,9;");
        type(x, "b").keep();
        x.pick(0);
        x.score(0);
        String before = counts(x) + names(x) + word(x);
        x.wipe();
        due("all but THE TEXT", (counts(x) + names(x) + word(x)), before.replace(" 1 13 2", " 1 0 2"));
        due("the SCORE is known", isKnown(x, "b", 0), true);
    }

    private static void fault(String text, int want) {
        due("fault of " + text, write(new NameSeeker(), text).fault(), want);
    }

    /** Each of the signs 32 to 126 in place of one letter: a FAULT of its ITEM, but for these. */
    private static void only(String text, int place, String these, int item) {
        for (char sign = 32; sign <= 126; sign++) {
            fault(text.substring(0, place) + sign + text.substring(place + 1), these.indexOf(sign) >= 0 ? NONE : item);
        }
    }

    private static void promise4() {
        String two = "s0,a;w1,2,3;";
        String figures = "0123456789";
        String signs = "abcdefghijklmnopqrstuvwxyzABCDEFGHIJKLMNOPQRSTUVWXYZ_";
        edge("4: NONE: an empty TEXT", () -> fault("", NONE));
        edge("4: an ITEM begins with s or w", TextEdgeTest::firstLetters);
        edge("4: KIND 0 to 3", () -> only(two, 1, "0123", 0));
        edge("4: a , behind KIND", () -> only(two, 2, ",", 0));
        edge("4: signs a to z, A to Z, _", () -> only(two, 3, signs, 0));
        edge("4: signs behind the first, too", () -> signsBehindTheFirst(signs));
        edge("4: a ; behind a NAME", () -> only(two, 4, ";", 0));
        edge("4: B 0 to 9", () -> only(two, 6, figures, 5));
        edge("4: a , behind B", () -> only(two, 7, ",", 5));
        edge("4: R 0 to 9", () -> only(two, 8, figures, 5));
        edge("4: a , behind R", () -> only(two, 9, ",", 5));
        edge("4: G 0 to 9", () -> only(two, 10, figures, 5));
        edge("4: a ; behind G", () -> only(two, 11, ";", 5));
        edge("4: all figures one", TextEdgeTest::moreFigures);
        edge("4: 1 sign at least", TextEdgeTest::leastSigns);
        edge("4: 12 signs at most", TextEdgeTest::mostSigns);
        edge("4: 8 NAMES at most", TextEdgeTest::mostNames);
        edge("4: of w as many as there is room for", () -> fault("w9,9,9;".repeat(28) + "w1,2", 196));
        edge("4: an ITEM ends with its ;", TextEdgeTest::unfinished);
        edge("4: what it tells is all there, and no more", TextEdgeTest::partsOfItems);
        edge("4: the first ITEM that is not so", TextEdgeTest::firstOfSeveral);
        edge("4: the place of its first letter: 0 to 199", TextEdgeTest::placesOfFaults);
        edge("4: FAULT in a TEXT of 200 letters", TextEdgeTest::longestTexts);
    }

    private static void firstLetters() {
        for (char sign = 32; sign <= 126; sign++) {
            fault(sign + "0,a;", sign == 's' ? NONE : 0);
            fault("s0,a;" + sign + "1,2,3;", sign == 'w' ? NONE : 5);
            fault("s0,a;" + sign, 5);
        }
    }

    private static void signsBehindTheFirst(String signs) {
        for (char sign = 32; sign <= 126; sign++) {
            fault("w1,2,3;s0,a" + sign + "b;", signs.indexOf(sign) >= 0 ? NONE : sign == ';' ? 12 : 7);
            fault("w1,2,3;s0,abcdefghijk" + sign + ";", signs.indexOf(sign) >= 0 ? NONE : sign == ';' ? 22 : 7);
        }
    }

    private static void moreFigures() {
        for (String not : new String[] {"s00,a;", "s01,a;", "s10,a;", "w01,2,3;", "w10,2,3;", "w1,02,3;", "w1,20,3;", "w1,2,03;", "w1,2,30;",
            "w-1,2,3;", "w1,-2,3;", "w1,2,-3;", "s-0,a;", "s+1,a;"}) {
            fault(not, 0);
            fault("s0,a;" + not, 5);
        }
    }

    private static void leastSigns() {
        fault("s0,;", 0);
        fault("s0,a;s0,;", 5);
        fault("s0,_;", NONE);
        fault("s0,Z;", NONE);
    }

    private static void mostSigns() {
        fault("s0,abcdefghijkl;", NONE);
        fault("s0,____________;", NONE);
        fault("s0,abcdefghijklm;", 0);
        fault("s0,_____________;", 0);
        fault("s3,abcdefghijkl;s3,abcdefghijklm;", 16);
        fault("s0,abcdefghijklmnopqrstuvwxyz;", 0);
        fault("s0," + "a".repeat(196) + ";", 0);
    }

    private static void mostNames() {
        fault(EIGHT.substring(5), NONE);
        fault(EIGHT, NONE);
        fault(EIGHT + "s0,i;", 40);
        fault(EIGHT + "s0,i;s0,j;", 40);
        fault(EIGHT + "s0,i", 40);
        fault(EIGHT + "w1,2,3;", NONE);
        fault(EIGHT + "w1,2,3;s0,i;w1,2,3;", 47);
        fault("w1,2,3;" + EIGHT + "s0,i;", 47);
        fault("s0,a;".repeat(8), NONE);
        fault("s0,a;".repeat(9), 40);
        fault("s0,a;".repeat(40), 40);
    }

    private static void unfinished() {
        for (String item : new String[] {"s0,a;", "s3,abcdefghijkl;", "w1,2,3;"}) {
            for (int size = 1; size < item.length(); size++) {
                fault(item.substring(0, size), 0);
                fault("s0,a;" + item.substring(0, size), 5);
                fault(item.substring(0, size) + "s0,a;", 0);
            }
            fault(item, NONE);
        }
    }

    private static void partsOfItems() {
        for (String not : new String[] {";", ",", "s;", "w;", "s,a;", "sa;", "s0a;", "s0;", "s0,,a;", "s0,a,b;", "s0,a,;", "s,0,a;", "w,;", "w1;",
            "w1,2;", "w1,2,;", "w,1,2;", "w1,,3;", "w1,2,3,;", "w1,2,3,4;", "w123;", "w1,23;", "s0,a;;", "w1,2,3;;", " s0,a;", "s0,a; "}) {
            int item = not.equals("s0,a;;") || not.equals("s0,a; ") ? 5 : not.equals("w1,2,3;;") ? 7 : 0;
            fault(not, item);
            fault("w0,0,0;" + not, 7 + item);
        }
    }

    private static void firstOfSeveral() {
        fault("x;y;", 0);
        fault("s0,a;x;y;", 5);
        fault("s0,a;s4,a;s5,a;", 5);
        fault("s0,a;s4,a;s0,a;", 5);
        fault("s4,a;" + EIGHT + "s0,a;", 0);
        fault(EIGHT + "s0,a;s4,a;", 40);
        fault(EIGHT + "s4,a;", 40);
        fault(EIGHT + "w1,2,x;s0,a;", 40);
    }

    private static void placesOfFaults() {
        fault("x", 0);
        String so = "s0,abcdefg;" + "w1,2,3;".repeat(26);
        fault(so + "w4,5,6;", NONE);
        fault(so + "w4,5,6", 193);
        fault("s0,abcdef;" + "w1,2,3;".repeat(27) + "s", 199);
        fault("s0,abcdef;" + "w1,2,3;".repeat(27) + ";", 199);
        fault("s0,abcdef;" + "w1,2,3;".repeat(27), NONE);
        for (int size = 1; size <= 12; size++) {
            String name = "s0," + "abcdefghijkl".substring(0, size) + ";";
            fault(name + "x", 4 + size);
            fault(name + name + "x", 8 + 2 * size);
        }
    }

    private static void longestTexts() {
        fault(LONGEST, NONE);
        fault("x" + LONGEST, 0);
        fault("x".repeat(200), 0);
        fault("s0,aaaaaaaaaaaa;".repeat(8) + "w1,2,3;".repeat(10) + "ww", 198);
    }

    private static void promise5() {
        edge("5: how many NAMES: 1", () -> due("lay", write(new NameSeeker(), "s0,a;").lay(), 1));
        edge("5: how many NAMES: 8", () -> due("lay", write(new NameSeeker(), EIGHT).lay(), 8));
        edge("5: NO: a ninth", () -> no(EIGHT + "s0,i;"));
        edge("5: NO: of no NAME, an empty TEXT", () -> no(""));
        edge("5: NO: of no NAME, w alone", TextEdgeTest::layWithoutName);
        edge("5: NO: a FAULT", TextEdgeTest::layFault);
        edge("5: nothing changes by NO", TextEdgeTest::layNoChangesNothing);
        edge("5: THE TEXT stays", TextEdgeTest::layLeavesText);
        edge("5: NAMES 0, 1, .. as they stand", TextEdgeTest::layOrder);
        edge("5: a NAME of 1 sign and of 12", TextEdgeTest::laySigns);
        edge("5: KINDS 0 to 3", () -> due("kinds", kinds(laid("s0,a;s1,a;s2,a;s3,a;")), "0123"));
        edge("5: fewer NAMES than there were", TextEdgeTest::layFewer);
        edge("5: 3, 2, 1 without w", TextEdgeTest::layDefaults);
        edge("5: w 0,0,0 and 9,9,9", TextEdgeTest::layLeastAndMost);
        edge("5: of several w the last one counts", TextEdgeTest::layLastWorth);
        edge("5: a TEXT of 200 letters", TextEdgeTest::layLongest);
    }

    private static void no(String text) {
        NameSeeker x = write(new NameSeeker(), text);
        due("lay of " + text, x.lay(), NO);
        due("names", x.count(0) + " " + x.count(4) + " " + x.count(6) + signs(x, 0), "6 6 1openFile");
    }

    private static void layWithoutName() {
        no("w1,2,3;");
        no("w1,2,3;".repeat(28));
        due("with a NAME behind", write(new NameSeeker(), "w1,2,3;".repeat(20) + "s0,a;").lay(), 1);
    }

    private static void layFault() {
        no("x");
        no("s0,a");
        no("s0,a;x");
        no("s0,a;s0,abcdefghijklm;");
        no("s0,a;s0,;");
        no("s0,a;s4,a;");
        no("s0,a;w1,2,3");
        no("s0,abcdef;" + "w1,2,3;".repeat(27) + "s");
    }

    private static void layNoChangesNothing() {
        NameSeeker x = laid("s2,ab;s3,aB;w7,8,9;");
        x.pick(1);
        type(x, "aB").keep();
        x.list(-1);
        write(x, "s0,a;w1,1,1;x");
        String before = counts(x) + names(x) + word(x) + asked(x);
        due("lay", x.lay(), NO);
        due("all", counts(x) + names(x) + word(x) + asked(x), before);
        due("THE TEXT", x.count(11) + " " + x.fault(), "13 12");
        due("KEPT", x.back() + word(x), "0aB");
        due("the SCORE is known", isKnown(x, "aB", 1), true);
    }

    private static void layLeavesText() {
        NameSeeker x = write(new NameSeeker(), "s1,q;w9,9,9;");
        x.lay();
        due("how long", x.count(11), 12);
        due("fault", x.fault(), NONE);
        due("one more letter", x.write('x'), 13);
        due("its fault", x.fault(), 12);
        due("wipe", x.wipe(), 13);
        write(x, EIGHT).lay();
        due("laid again", x.lay() + " " + x.name(0, 2) + " " + x.name(7, 2), "8 15 22");
    }

    private static String kinds(NameSeeker x) {
        StringBuilder kinds = new StringBuilder();
        for (int n = 0; n < x.count(0); n++) {
            kinds.append(x.name(n, 0));
        }
        return kinds.toString();
    }

    private static void layOrder() {
        NameSeeker x = laid("w1,1,1;s3,b;s0,a;w2,2,2;s1,C;w3,3,3;");
        due("names", names(x), "3b,1,6,0,1 0a,1,7,0,1 1C,1,8,0,1");
    }

    private static void laySigns() {
        NameSeeker x = laid("s0,_;s0,ABCDEFGHIJKL;s0,abcdefghijkl;s0,zZ_zZ_zZ_zZ_;");
        due("signs", signs(x, 0) + signs(x, 1) + signs(x, 2) + signs(x, 3), "_ABCDEFGHIJKLabcdefghijklzZ_zZ_zZ_zZ_");
        due("how many", x.name(0, 1) + " " + x.name(1, 1) + " " + x.name(2, 1) + " " + x.name(3, 1), "1 12 12 12");
    }

    private static void layFewer() {
        NameSeeker x = laid(EIGHT);
        for (int n = 0; n < 8; n++) {
            x.pick(n);
        }
        write(x, "s2,Q;").lay();
        due("names", x.count(0) + " " + names(x), "1 2Q,1,14,0,1");
        due("no second", x.name(1, 0), BAD);
        due("no eighth", x.name(7, 0), BAD);
        write(x, EIGHT).lay();
        due("more again", x.count(0) + " " + x.name(7, 2) + " " + x.name(7, 3), "8 22 0");
    }

    private static String worths(NameSeeker x) {
        return x.count(1) + " " + x.count(2) + " " + x.count(3);
    }

    private static void layDefaults() {
        due("after 4, 3, 1", worths(laid("s0,a;")), "3 2 1");
        NameSeeker x = laid("s0,a;w9,8,7;");
        due("with w", worths(x), "9 8 7");
        write(x, "s0,a;").lay();
        due("after w", worths(x), "3 2 1");
        x.worth(0, 0, 0);
        x.lay();
        due("after worth", worths(x), "3 2 1");
        due("what it scores", type(x, "a").score(0), 53);
    }

    private static void layLeastAndMost() {
        due("least", worths(laid("s0,a;w0,0,0;")), "0 0 0");
        due("most", worths(laid("s0,a;w9,9,9;")), "9 9 9");
        due("B", worths(laid("s0,a;w9,0,0;")), "9 0 0");
        due("R", worths(laid("s0,a;w0,9,0;")), "0 9 0");
        due("G", worths(laid("s0,a;w0,0,9;")), "0 0 9");
    }

    private static void layLastWorth() {
        due("two behind", worths(laid("s0,a;w1,2,3;w4,5,6;")), "4 5 6");
        due("one ahead, one behind", worths(laid("w7,8,9;s0,a;w0,1,2;")), "0 1 2");
        due("both ahead", worths(laid("w7,8,9;w0,1,2;s0,a;")), "0 1 2");
        due("one ahead", worths(laid("w7,8,9;s0,a;")), "7 8 9");
        due("of three", worths(laid("w9,9,9;s0,a;w0,0,0;s0,b;w5,6,7;s0,c;")), "5 6 7");
        due("3, 2, 1 is told, too", worths(laid("w9,9,9;s0,a;w3,2,1;")), "3 2 1");
    }

    private static void layLongest() {
        NameSeeker x = laid(LONGEST);
        due("names", names(x), "1abcdefg,7,6,0,1");
        due("the last w", worths(x), "4 5 6");
        NameSeeker y = laid("s0,abcdefghijkl;".repeat(8) + "w1,2,3;".repeat(9) + "w9,8,7;");
        due("the eighth", y.count(11) + " " + y.count(0) + signs(y, 7) + worths(y), "198 8abcdefghijkl9 8 7");
    }

    private static void promise5WhatGoesOn() {
        edge("5: IDS go on", TextEdgeTest::idsGoOn);
        edge("5: the TICK goes on", TextEdgeTest::tickGoesOn);
        edge("5: the AGE is 1 more by each LAID", TextEdgeTest::ageGoesOn);
        edge("5: HITS and MISSES go on", TextEdgeTest::hitsGoOn);
        edge("5: what was ASKED goes on", TextEdgeTest::askedGoesOn);
        edge("5: the SEED goes on", TextEdgeTest::seedGoesOn);
        edge("5: PICKS are none then", TextEdgeTest::picksEnd);
        edge("5: THE WORD is none then", TextEdgeTest::wordEnds);
        edge("5: KEPT are none then", TextEdgeTest::keptEnd);
        edge("5: the last of 512 calls", TextEdgeTest::lastCalls);
    }

    private static void idsGoOn() {
        NameSeeker x = laid("s0,a;s0,a;s0,a;");
        due("behind 0 to 5", x.name(0, 2) + " " + x.name(2, 2) + " " + x.count(4), "6 8 9");
        x.drop(2);
        x.drop(0);
        due("DROPPED", x.name(0, 2) + " " + x.count(4), "7 9");
        x.lay();
        due("those DROPPED count, too", x.name(0, 2) + " " + x.name(2, 2) + " " + x.count(4), "9 11 12");
        write(x, "s0,b;").lay();
        due("of one", x.name(0, 2) + " " + x.count(4), "12 13");
    }

    private static void tickGoesOn() {
        NameSeeker x = new NameSeeker();
        x.pick(0);
        x.pick(0);
        write(x, "s0,a;").lay();
        due("the TICK", x.count(5), 2);
        due("the next", x.pick(0), 3);
    }

    private static void ageGoesOn() {
        NameSeeker x = write(new NameSeeker(), "s0,a;");
        due("at first", x.count(6), 1);
        x.lay();
        due("LAID", x.count(6), 2);
        x.worth(0, 0, 0);
        due("worth", x.count(6), 3);
        x.lay();
        due("LAID again", x.count(6), 4);
        write(x, "x").lay();
        due("not LAID", x.count(6), 4);
    }

    private static void hitsGoOn() {
        NameSeeker x = new NameSeeker();
        x.list(-1);
        x.list(-1);
        x.score(0);
        write(x, "s0,a;").lay();
        sought(x, "LAID", 7, 6);
        x.score(0);
        x.score(0);
        sought(x, "and on", 8, 7);
    }

    private static void askedGoesOn() {
        NameSeeker x = new NameSeeker();
        for (String letters : new String[] {"a", "b", "c", "d", "e"}) {
            type(x, letters).list(-1);
        }
        write(x, "s0,a;").lay();
        due("LAID", asked(x), "5 4 3 2 1 -4");
        x.list(-1);
        due("one more", asked(x), "0 5 4 3 2 1");
        x.lay();
        type(x, "Z").list(-1);
        due("and one more", asked(x), "52 0 5 4 3 2");
    }

    private static void seedGoesOn() {
        NameSeeker x = new NameSeeker();
        x.roll();
        write(x, "s0,a;").lay();
        due("the SEED", x.count(9), 20264);
        long next = (7919L * 20264 + 12345) % 65521;
        due("the next", x.roll() + " " + x.count(9), ('a' + next % 26) + " " + next);
    }

    private static void picksEnd() {
        NameSeeker x = laid(EIGHT);
        for (int n = 0; n < 8; n++) {
            x.pick(n);
        }
        x.lay();
        for (int n = 0; n < 8; n++) {
            due("the TICK of " + n, x.name(n, 3), 0);
            due("forget " + n, x.forget(n), NO);
        }
        due("the list", list(x), "01234567");
    }

    private static void wordEnds() {
        NameSeeker x = write(type(new NameSeeker(), "abcdef"), "s0,a;");
        x.lay();
        due("how many", x.word(-1), 0);
        due("the first letter", x.word(0), NONE);
        due("untype", x.untype(), NO);
        due("CODE", x.count(12), 0);
        due("six again", type(x, "uvwxyz").word(-1) + word(x), "6uvwxyz");
    }

    private static void keptEnd() {
        NameSeeker x = write(type(new NameSeeker(), "ab"), "s0,a;");
        x.keep();
        x.keep();
        x.lay();
        due("how many", x.count(10), 0);
        due("back", x.back(), NO);
        due("two again", x.keep() + " " + x.keep() + " " + x.keep(), "1 2 " + FULL);
    }

    private static void lastCalls() {
        NameSeeker one = write(new NameSeeker(), "s0,a;");
        for (int i = 7; i <= 511; i++) {
            due("call " + i, one.lay(), 1);
        }
        due("the ID of the last", one.name(0, 2), 6 + 505 - 1);
        NameSeeker eight = write(new NameSeeker(), EIGHT);
        for (int i = 42; i <= 511; i++) {
            eight.lay();
        }
        due("the ID of the last of eight", eight.name(7, 2), 6 + 470 * 8 - 1);
        NameSeeker aged = write(new NameSeeker(), "s0,a;");
        for (int i = 7; i <= 511; i++) {
            aged.lay();
        }
        due("the AGE", aged.count(6), 506);
    }

    private static void promise6() {
        edge("6: BAD: n of 1 NAME", () -> nameNumbers(laid("s0,a;"), 1));
        edge("6: BAD: n of 8 NAMES", () -> nameNumbers(laid(EIGHT), 8));
        edge("6: BAD: n of those that are left", TextEdgeTest::nameDropped);
        edge("6: BAD: what", TextEdgeTest::nameWhat);
        edge("6: signs 1 and 12", TextEdgeTest::nameSigns);
        edge("6: TICK 0: never PICKED", TextEdgeTest::nameNeverPicked);
        edge("6: BEGINNINGS: its first place, if no _ stands there", TextEdgeTest::beginsFirst);
        edge("6: BEGINNINGS: each letter behind a _", TextEdgeTest::beginsBehindLine);
        edge("6: BEGINNINGS: each great letter behind a small one", TextEdgeTest::beginsGreat);
        edge("6: BEGINNINGS: bits of places 0 to 11", TextEdgeTest::beginsBits);
        edge("6: BEGINNINGS whatever its KIND", TextEdgeTest::beginsOfKinds);
    }

    private static void nameNumbers(NameSeeker x, int size) {
        for (int n : new int[] {MIN, -2, -1, 0, size - 1, size, size + 1, 31, 32, MAX}) {
            boolean isOne = n >= 0 && n < size;
            for (int what = 0; what <= 4; what++) {
                due("name " + n + ", " + what, x.name(n, what) == BAD, !isOne);
            }
        }
        due("the last one's ID", x.name(size - 1, 2), 6 + size - 1);
    }

    private static void nameDropped() {
        NameSeeker x = laid(EIGHT);
        for (int size = 7; size >= 1; size--) {
            x.drop(0);
            due("name " + size, x.name(size, 0), BAD);
            due("name " + (size - 1), x.name(size - 1, 2), 13);
        }
    }

    private static void nameWhat() {
        for (int what : new int[] {MIN, -2, -1, 5, 6, MAX}) {
            due("what " + what, new NameSeeker().name(0, what), BAD);
            due("both", new NameSeeker().name(6, what), BAD);
        }
        for (int what = 0; what <= 4; what++) {
            due("what " + what, new NameSeeker().name(3, what), new int[] {2, 10, 3, 0, 17}[what]);
        }
    }

    private static void nameSigns() {
        NameSeeker x = laid("s0,a;s0,abcdefghijkl;s0,_;s0,____________;");
        due("signs", x.name(0, 1) + " " + x.name(1, 1) + " " + x.name(2, 1) + " " + x.name(3, 1), "1 12 1 12");
    }

    private static void nameNeverPicked() {
        NameSeeker x = laid("s0,a;s0,b;");
        due("never", x.name(0, 3), 0);
        x.pick(0);
        due("the first", x.name(0, 3) + " " + x.name(1, 3), "1 0");
        x.pick(0);
        due("again", x.name(0, 3) + " " + x.name(1, 3), "2 0");
        x.forget(0);
        due("FORGOTTEN", x.name(0, 3), 0);
    }

    private static void begins(String name, int want) {
        due("beginnings of " + name, laid("s0," + name + ";").name(0, 4), want);
    }

    private static void beginsFirst() {
        for (String name : new String[] {"a", "z", "A", "Z"}) {
            begins(name, 1);
        }
        begins("_", 0);
        begins("__", 0);
    }

    private static void beginsBehindLine() {
        for (String letter : new String[] {"a", "z", "A", "Z"}) {
            begins("_" + letter, 2);
            begins("x_" + letter, 5);
            begins("X_" + letter, 5);
            begins("__" + letter, 4);
            begins("_" + letter + "x", 2);
            begins(letter + "_", 1);
        }
        begins("___", 0);
    }

    private static void beginsGreat() {
        for (String small : new String[] {"a", "b", "y", "z"}) {
            for (String great : new String[] {"A", "B", "Y", "Z"}) {
                begins(small + great, 3);
                begins(great + small, 1);
                begins(great + great, 1);
                begins(small + small, 1);
                begins(small + great + great, 3);
                begins("_" + small + great, 6);
                begins("_" + great + great, 2);
            }
        }
        for (String letters : new String[] {"AZ", "ZA", "az", "za", "Ba", "Zz"}) {
            begins(letters, 1);
        }
    }

    private static void beginsBits() {
        begins("abcdefghijkL", 1 + 2048);
        begins("abcdefghij_l", 1 + 2048);
        begins("aBaBaBaBaBaB", 1 + 2 + 8 + 32 + 128 + 512 + 2048);
        begins("_a_a_a_a_a_a", 2 + 8 + 32 + 128 + 512 + 2048);
        begins("___________a", 2048);
    }

    private static void beginsOfKinds() {
        NameSeeker x = laid("s0,aB_c;s1,aB_c;s2,aB_c;s3,aB_c;");
        for (int n = 0; n < 4; n++) {
            due("of KIND " + n, x.name(n, 4), 11);
            x.rename(n, 3 - n);
            due("renamed " + n, x.name(n, 4), 11);
        }
    }

    private static void promise7() {
        edge("7: BAD: place below 0", TextEdgeTest::signBelow);
        edge("7: NONE: not so many, of 1", () -> signsUpTo("q"));
        edge("7: NONE: not so many, of 12", () -> signsUpTo("abcdefghijkl"));
        edge("7: NONE: not so many, though another NAME has", TextEdgeTest::signOfShorter);
        edge("7: BAD: n", TextEdgeTest::signNumbers);
        edge("7: BAD is ahead of NONE", TextEdgeTest::signBadAheadOfNone);
        edge("7: as in ASCII", () -> due("signs", signs(laid("s0,azAZ_;"), 0), "azAZ_"));
        edge("7: as it is written, whatever its KIND", () -> due("signs", signs(laid("s1,aB;s3,aB;"), 1), "aB"));
    }

    private static void signBelow() {
        for (int place : new int[] {-1, -2, MIN}) {
            due("place " + place, new NameSeeker().sign(0, place), BAD);
            due("both", new NameSeeker().sign(6, place), BAD);
        }
    }

    private static void signsUpTo(String name) {
        NameSeeker x = laid("s0," + name + ";");
        int last = name.length() - 1;
        due("the first", x.sign(0, 0), (int) name.charAt(0));
        due("the last", x.sign(0, last), (int) name.charAt(last));
        for (int place : new int[] {last + 1, last + 2, 12, 13, MAX}) {
            due("place " + place, x.sign(0, place), NONE);
        }
    }

    private static void signOfShorter() {
        NameSeeker x = laid("s0,abc;s0,abcdef;s0,ab;");
        due("3 of abc", x.sign(0, 3), NONE);
        due("6 of abcdef", x.sign(1, 6), NONE);
        due("2 of ab", x.sign(2, 2), NONE);
        write(x, "s0,z;").lay();
        due("what stood there", x.sign(0, 1), NONE);
    }

    private static void signNumbers() {
        for (int n : new int[] {-1, 6, 7, 8, MIN, MAX}) {
            due("name " + n, new NameSeeker().sign(n, 0), BAD);
        }
        due("the last", new NameSeeker().sign(5, 0), (int) 'p');
        due("no eighth", laid(EIGHT).sign(8, 0), BAD);
        due("the eighth", laid(EIGHT).sign(7, 0), (int) 'h');
    }

    private static void signBadAheadOfNone() {
        due("n too great, place too great", new NameSeeker().sign(6, 12), BAD);
        due("n below 0, place too great", new NameSeeker().sign(-1, MAX), BAD);
    }
}

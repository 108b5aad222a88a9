/** Each sentence of promises 8 to 16, letters typed and acts, that names an edge: a test of its own. */
public final class WordEdgeTest extends Checks {
    private static final String EIGHT = "s0,a;s1,b;s2,c;s3,d;s0,e;s1,f;s2,g;s3,h;";
    private static final String FOUR_KINDS = "s0,Ab;s1,Ab;s2,Ab;s3,Ab;";

    public static void main(String[] args) {
        promise8();
        promise9();
        promise10();
        promise11();
        promise12();
        promise13();
        promise14();
        promise15();
        promise16();
        end();
    }

    private static void promise8() {
        edge("8: a to z, A to Z", WordEdgeTest::typeLetters);
        edge("8: how many THE WORD has, 1 to 6", WordEdgeTest::typeLengths);
        edge("8: FULL: 6", WordEdgeTest::typeFull);
        edge("8: BAD is ahead of FULL", WordEdgeTest::typeBadAheadOfFull);
        edge("8: nothing changes by BAD", WordEdgeTest::typeBadChangesNothing);
        edge("8: nothing changes by FULL", WordEdgeTest::typeFullChangesNothing);
        edge("8: room again after untype", WordEdgeTest::typeAfterUntype);
    }

    private static void typeLetters() {
        for (int letter = -200; letter <= 400; letter++) {
            boolean isLetter = letter >= 'a' && letter <= 'z' || letter >= 'A' && letter <= 'Z';
            due("type " + letter, new NameSeeker().type(letter), isLetter ? 1 : BAD);
        }
        for (int letter : new int[] {65536 + 'a', -65536 + 'a', MIN, MIN + 'a', MAX}) {
            due("type " + letter, new NameSeeker().type(letter), BAD);
        }
    }

    private static void typeLengths() {
        NameSeeker x = new NameSeeker();
        for (int i = 1; i <= 6; i++) {
            due("letter " + i, x.type("azAZmM".charAt(i - 1)), i);
            due("how many", x.word(-1), i);
        }
        due("the word", word(x), "azAZmM");
    }

    private static void typeFull() {
        NameSeeker x = type(new NameSeeker(), "abcde");
        due("the sixth", x.type('f'), 6);
        due("the seventh", x.type('g'), FULL);
        due("the eighth", x.type('G'), FULL);
        due("a rolled one counts, too", rolled(6).type('a'), FULL);
        due("five rolled", rolled(5).type('a'), 6);
    }

    private static NameSeeker rolled(int times) {
        NameSeeker x = new NameSeeker();
        for (int i = 0; i < times; i++) {
            x.roll();
        }
        return x;
    }

    private static void typeBadAheadOfFull() {
        NameSeeker x = type(new NameSeeker(), "abcdef");
        for (int letter : new int[] {'a' - 1, 'z' + 1, 'A' - 1, 'Z' + 1, '_', ' ', -1, MIN, MAX}) {
            due("type " + letter, x.type(letter), BAD);
        }
    }

    private static void typeBadChangesNothing() {
        NameSeeker x = type(new NameSeeker(), "aB");
        x.type('_');
        x.type('[');
        due("the word", word(x) + x.count(12), "aB81");
        due("the next", x.type('c') + word(x), "3aBc");
    }

    private static void typeFullChangesNothing() {
        NameSeeker x = type(new NameSeeker(), "abcDEF");
        long code = x.count(12);
        x.type('x');
        due("the word", word(x), "abcDEF");
        due("the CODE", (long) x.count(12), code);
        due("the last", x.untype(), (int) 'F');
        due("the one ahead", x.untype(), (int) 'E');
    }

    private static void typeAfterUntype() {
        NameSeeker x = type(new NameSeeker(), "abcdef");
        x.untype();
        due("the sixth", x.type('Z'), 6);
        due("the seventh", x.type('Y'), FULL);
        due("the word", word(x), "abcdeZ");
    }

    private static void promise9() {
        edge("9: NO: none", WordEdgeTest::untypeNone);
        edge("9: which it was, of 6", WordEdgeTest::untypeAll);
        edge("9: what is rolled is taken back, too", WordEdgeTest::untypeRolled);
        edge("9: nothing changes by NO", WordEdgeTest::untypeNoChangesNothing);
        edge("9: THE WORD is as it was ahead of it", WordEdgeTest::untypeCode);
    }

    private static void untypeNone() {
        due("at first", new NameSeeker().untype(), NO);
        NameSeeker x = type(new NameSeeker(), "a");
        due("the only one", x.untype(), (int) 'a');
        due("none is left", x.untype(), NO);
        due("nor then", x.untype(), NO);
    }

    private static void untypeAll() {
        NameSeeker x = type(new NameSeeker(), "azAZbY");
        for (int i = 5; i >= 0; i--) {
            due("letter " + i, x.untype(), (int) "azAZbY".charAt(i));
            due("how many", x.word(-1), i);
        }
        due("NO", x.untype(), NO);
    }

    private static void untypeRolled() {
        NameSeeker x = new NameSeeker();
        int letter = x.roll();
        due("the letter", x.untype(), letter);
        due("the SEED is not taken back", x.count(9), 20264);
        due("none", x.untype(), NO);
    }

    private static void untypeNoChangesNothing() {
        NameSeeker x = new NameSeeker();
        x.untype();
        due("how many", x.word(-1), 0);
        due("the next", x.type('q') + word(x), "1q");
        due("counts", counts(x), "6 4 3 1 6 0 1 0 0 1 0 0 17");
    }

    private static void untypeCode() {
        NameSeeker x = type(new NameSeeker(), "aB");
        x.score(0);
        x.type('c');
        x.untype();
        due("the CODE", x.count(12), 81);
        x.score(0);
        sought(x, "it is known", 1, 1);
    }

    private static void promise10() {
        edge("10: ROLLED: (7919 SEED + 12345) modulo 65521", WordEdgeTest::rollSeeds);
        edge("10: the small letter SEED modulo 26, 0 a, 25 z", WordEdgeTest::rollLetters);
        edge("10: it is typed", WordEdgeTest::rollTypes);
        edge("10: FULL: 6", WordEdgeTest::rollFull);
        edge("10: FULL: the SEED stays", WordEdgeTest::rollFullSeed);
        edge("10: nothing else changes by FULL", WordEdgeTest::rollFullWord);
    }

    private static void rollSeeds() {
        NameSeeker x = new NameSeeker();
        long seed = 1;
        for (int i = 0; i < 170; i++) {
            seed = (7919 * seed + 12345) % 65521;
            x.roll();
            due("SEED " + i, (long) x.count(9), seed);
            x.untype();
        }
    }

    private static void rollLetters() {
        NameSeeker x = new NameSeeker();
        boolean[] seen = new boolean[26];
        long seed = 1;
        for (int i = 0; i < 250; i++) {
            seed = (7919 * seed + 12345) % 65521;
            due("letter " + i, x.roll(), (int) ('a' + seed % 26));
            seen[(int) (seed % 26)] = true;
            x.untype();
        }
        due("a was drawn, and z", seen[0] + " " + seen[25], "true true");
    }

    private static void rollTypes() {
        NameSeeker x = new NameSeeker();
        for (int i = 0; i < 6; i++) {
            int letter = x.roll();
            due("how many", x.word(-1), i + 1);
            due("the last", x.word(i), letter);
        }
        NameSeeker y = type(new NameSeeker(), "AB");
        y.roll();
        due("behind the others", word(y), "AB" + (char) ('a' + 20264 % 26));
    }

    private static void rollFull() {
        NameSeeker x = type(new NameSeeker(), "abcde");
        due("the sixth", x.roll(), 'a' + 20264 % 26);
        due("the seventh", x.roll(), FULL);
        due("the eighth", x.roll(), FULL);
        due("a sixth again", x.untype() + x.roll() > 0, true);
        due("full of typed ones", type(new NameSeeker(), "abcdef").roll(), FULL);
    }

    private static void rollFullSeed() {
        NameSeeker x = type(new NameSeeker(), "abcdef");
        x.roll();
        x.roll();
        due("the SEED", x.count(9), 1);
        x.untype();
        due("the next is as if none had been", x.roll(), new NameSeeker().roll());
    }

    private static void rollFullWord() {
        NameSeeker x = type(new NameSeeker(), "abCDef");
        x.roll();
        due("the word", word(x), "abCDef");
        due("how many", x.word(-1), 6);
    }

    private static void promise11() {
        edge("11: k = -1: how many, 0 to 6", WordEdgeTest::wordHowMany);
        edge("11: BAD: below -1", WordEdgeTest::wordBad);
        edge("11: NONE: not so many", WordEdgeTest::wordNone);
        edge("11: the first and the last", WordEdgeTest::wordLetters);
        edge("11: NONE: what was taken back", WordEdgeTest::wordTakenBack);
    }

    private static void wordHowMany() {
        for (int size = 0; size <= 6; size++) {
            due("of " + size, type(new NameSeeker(), "abcdef".substring(0, size)).word(-1), size);
        }
    }

    private static void wordBad() {
        for (int k : new int[] {-2, -3, MIN}) {
            due("word " + k, new NameSeeker().word(k), BAD);
            due("of six " + k, type(new NameSeeker(), "abcdef").word(k), BAD);
        }
    }

    private static void wordNone() {
        for (int size = 0; size <= 6; size++) {
            NameSeeker x = type(new NameSeeker(), "abcdef".substring(0, size));
            for (int k : new int[] {size, size + 1, 6, 7, MAX}) {
                due("letter " + k + " of " + size, x.word(k), NONE);
            }
        }
    }

    private static void wordLetters() {
        for (int size = 1; size <= 6; size++) {
            NameSeeker x = type(new NameSeeker(), "zbCdEA".substring(0, size));
            due("the first of " + size, x.word(0), (int) 'z');
            due("the last of " + size, x.word(size - 1), (int) "zbCdEA".charAt(size - 1));
        }
    }

    private static void wordTakenBack() {
        NameSeeker x = type(new NameSeeker(), "abc");
        x.untype();
        due("the third", x.word(2), NONE);
        due("the second", x.word(1), (int) 'b');
        x.untype();
        x.untype();
        due("the first", x.word(0), NONE);
    }

    private static void numbers(NameSeeker x, String call, java.util.function.IntUnaryOperator made, int size) {
        for (int n : new int[] {MIN, -2, -1, size, size + 1, 8, MAX}) {
            due(call + " " + n, made.applyAsInt(n), BAD);
        }
        due(call + " of the last", made.applyAsInt(size - 1) != BAD, true);
    }

    private static void promise12() {
        edge("12: BAD: n, of 6", () -> numbersOfPick(new NameSeeker(), 6));
        edge("12: BAD: n, of 1", () -> numbersOfPick(laid("s0,a;"), 1));
        edge("12: BAD: n, of 8", () -> numbersOfPick(laid(EIGHT), 8));
        edge("12: BAD: n, of those that are left", WordEdgeTest::pickDropped);
        edge("12: the TICK: 1 more by each PICK, 0 at first", WordEdgeTest::pickTicks);
        edge("12: the TICK does not change by BAD", WordEdgeTest::pickBadChangesNothing);
        edge("12: PICKED again it has the later TICK", WordEdgeTest::pickAgain);
        edge("12: the TICK of 512 calls", WordEdgeTest::pickMost);
        edge("12: a PICK is no AGE", WordEdgeTest::pickNoAge);
    }

    private static void numbersOfPick(NameSeeker x, int size) {
        numbers(x, "pick", n -> x.pick(n), size);
        due("the first", x.pick(0) > 0, true);
    }

    private static void pickDropped() {
        NameSeeker x = laid(EIGHT);
        x.drop(0);
        due("the eighth", x.pick(7), BAD);
        due("the seventh", x.pick(6), 1);
        due("its TICK", x.name(6, 3), 1);
    }

    private static void pickTicks() {
        NameSeeker x = laid(EIGHT);
        due("at first", x.count(5), 0);
        for (int tick = 1; tick <= 24; tick++) {
            due("PICK " + tick, x.pick(tick * 3 % 8), tick);
            due("its TICK", x.name(tick * 3 % 8, 3), tick);
            due("the TICK", x.count(5), tick);
        }
    }

    private static void pickBadChangesNothing() {
        NameSeeker x = new NameSeeker();
        x.pick(-1);
        x.pick(6);
        due("the TICK", x.count(5), 0);
        due("the next", x.pick(5), 1);
    }

    private static void pickAgain() {
        NameSeeker x = laid("s0,a;s0,a;");
        x.pick(0);
        x.pick(1);
        due("the list", list(x), "10");
        x.pick(0);
        due("the list then", list(x), "01");
        due("TICKS", x.name(0, 3) + " " + x.name(1, 3), "3 2");
        x.pick(0);
        due("twice in a row", x.name(0, 3) + " " + x.name(1, 3), "4 2");
    }

    private static void pickMost() {
        NameSeeker x = new NameSeeker();
        for (int tick = 1; tick <= 512; tick++) {
            due("PICK " + tick, x.pick(tick % 6), tick);
        }
    }

    private static void pickNoAge() {
        NameSeeker x = new NameSeeker();
        x.score(0);
        x.pick(0);
        x.score(0);
        sought(x, "the SCORE is known", 1, 1);
        due("the AGE", x.count(6), 1);
    }

    private static void promise13() {
        edge("13: BAD: n, of 6", () -> numbersOfForget(new NameSeeker(), 6));
        edge("13: BAD: n, of 1", () -> numbersOfForget(laid("s0,a;"), 1));
        edge("13: BAD: n, of 8", () -> numbersOfForget(laid(EIGHT), 8));
        edge("13: NO: it was never PICKED", WordEdgeTest::forgetNeverPicked);
        edge("13: NO: it is FORGOTTEN", WordEdgeTest::forgetAgain);
        edge("13: BAD is ahead of NO", WordEdgeTest::forgetBadAheadOfNo);
        edge("13: the TICK of its PICK: the first one, the last one", WordEdgeTest::forgetTicks);
        edge("13: FORGOTTEN it is as never PICKED", WordEdgeTest::forgetList);
        edge("13: the TICK stays", WordEdgeTest::forgetTickStays);
        edge("13: the others' PICKS stay", WordEdgeTest::forgetOthers);
    }

    private static void numbersOfForget(NameSeeker x, int size) {
        x.pick(size - 1);
        for (int n : new int[] {MIN, -2, -1, size, size + 1, 8, MAX}) {
            due("forget " + n, x.forget(n), BAD);
        }
        due("the last", x.forget(size - 1), 1);
    }

    private static void forgetNeverPicked() {
        NameSeeker x = new NameSeeker();
        x.pick(1);
        due("the one ahead", x.forget(0), NO);
        due("the one behind", x.forget(2), NO);
        due("the last", x.forget(5), NO);
        due("it", x.forget(1), 1);
    }

    private static void forgetAgain() {
        NameSeeker x = new NameSeeker();
        x.pick(3);
        due("it was", x.forget(3), 1);
        due("it is not", x.forget(3), NO);
        x.pick(3);
        due("PICKED anew", x.forget(3), 2);
        due("nor now", x.forget(3), NO);
    }

    private static void forgetBadAheadOfNo() {
        NameSeeker x = laid("s0,a;");
        due("below 0", x.forget(-1), BAD);
        due("there is none", x.forget(1), BAD);
        due("there is one", x.forget(0), NO);
    }

    private static void forgetTicks() {
        NameSeeker x = new NameSeeker();
        x.pick(0);
        x.pick(1);
        x.pick(2);
        x.pick(1);
        due("the first TICK", x.forget(0), 1);
        due("the last TICK", x.forget(1), 4);
        due("the third", x.forget(2), 3);
    }

    private static void forgetList() {
        NameSeeker x = laid("s0,aa;s0,a;s0,a;");
        x.pick(0);
        x.pick(2);
        due("PICKED", list(x), "201");
        x.forget(0);
        due("one FORGOTTEN", list(x), "210");
        x.forget(2);
        due("both FORGOTTEN", list(x), "120");
        due("the TICKS", x.name(0, 3) + " " + x.name(2, 3), "0 0");
    }

    private static void forgetTickStays() {
        NameSeeker x = new NameSeeker();
        x.pick(0);
        x.pick(0);
        x.forget(0);
        due("the TICK", x.count(5), 2);
        due("the AGE", x.count(6), 1);
        due("the next", x.pick(0), 3);
    }

    private static void forgetOthers() {
        NameSeeker x = laid(EIGHT);
        for (int n = 0; n < 8; n++) {
            x.pick(n);
        }
        x.forget(3);
        for (int n = 0; n < 8; n++) {
            due("the TICK of " + n, x.name(n, 3), n == 3 ? 0 : n + 1);
        }
    }

    private static void promise14() {
        edge("14: BAD: n, of 6", () -> numbersOfDrop(new NameSeeker(), 6));
        edge("14: BAD: n, of 8", () -> numbersOfDrop(laid(EIGHT), 8));
        edge("14: how many are left: 7 to 1", WordEdgeTest::dropAll);
        edge("14: NO: it is the only one", WordEdgeTest::dropOnlyOne);
        edge("14: BAD is ahead of NO", WordEdgeTest::dropBadAheadOfNo);
        edge("14: DROPPED the first: those behind are one lower", () -> dropped(0, "bcdefgh"));
        edge("14: DROPPED in the midst: those behind are one lower", () -> dropped(3, "abcefgh"));
        edge("14: DROPPED the last: none is lower", () -> dropped(7, "abcdefg"));
        edge("14: ID, KIND, TICK go with the NAME", WordEdgeTest::dropMovesAll);
        edge("14: the IDS that are told to no other", WordEdgeTest::dropIds);
        edge("14: no AGE, no TICK; SCORES are known", WordEdgeTest::dropKnown);
        edge("14: THE LIST: the lower number then", WordEdgeTest::dropList);
        edge("14: THE WORD and KEPT stay", WordEdgeTest::dropWord);
    }

    private static void numbersOfDrop(NameSeeker x, int size) {
        numbers(x, "drop", n -> x.drop(n), size);
        due("it is gone", x.count(0), size - 1);
    }

    private static void dropAll() {
        NameSeeker x = laid(EIGHT);
        for (int left = 7; left >= 1; left--) {
            due("drop", x.drop(left / 2), left);
            due("how many", x.count(0), left);
        }
        due("one more", x.drop(0), NO);
    }

    private static void dropOnlyOne() {
        NameSeeker x = laid("s0,a;s0,b;");
        due("of two", x.drop(0), 1);
        due("of one", x.drop(0), NO);
        due("it stays", x.count(0) + signs(x, 0), "1b");
        due("LAID alone", laid("s0,a;").drop(0), NO);
    }

    private static void dropBadAheadOfNo() {
        NameSeeker x = laid("s0,a;");
        due("below 0", x.drop(-1), BAD);
        due("there is none", x.drop(1), BAD);
        due("there is one", x.drop(0), NO);
        due("it stays", x.count(0), 1);
    }

    private static void dropped(int n, String left) {
        NameSeeker x = laid(EIGHT);
        due("drop", x.drop(n), 7);
        StringBuilder names = new StringBuilder();
        for (int m = 0; m < 7; m++) {
            names.append(signs(x, m));
        }
        due("those that are left", names.toString(), left);
        due("no eighth", x.sign(7, 0), BAD);
    }

    private static void dropMovesAll() {
        NameSeeker x = laid("s0,a;s1,Bc;s2,d_e;s3,fG;");
        x.pick(3);
        x.pick(1);
        x.pick(2);
        x.drop(1);
        due("names", names(x), "0a,1,6,0,1 2d_e,3,8,3,5 3fG,2,9,1,3");
        due("FORGOTTEN by its number", x.forget(2), 1);
        x.drop(0);
        due("names then", names(x), "2d_e,3,8,3,5 3fG,2,9,0,3");
    }

    private static void dropIds() {
        NameSeeker x = laid("s0,a;s0,b;");
        x.drop(1);
        due("LAID so far", x.count(4), 8);
        x.lay();
        due("IDS", x.name(0, 2) + " " + x.name(1, 2), "8 9");
    }

    private static void dropKnown() {
        NameSeeker x = laid(EIGHT);
        x.list(-1);
        x.drop(0);
        x.drop(3);
        due("AGE, TICK", x.count(6) + " " + x.count(5), "2 0");
        x.list(-1);
        sought(x, "the six that are left are known", 6, 8);
    }

    private static void dropList() {
        NameSeeker x = laid("s0,aa;s0,a;s0,a;s0,a;");
        x.pick(3);
        due("the list", list(x), "3120");
        x.drop(1);
        due("the list then", list(x), "210");
        x.drop(2);
        due("the list at last", list(x), "10");
    }

    private static void dropWord() {
        NameSeeker x = type(laid(EIGHT), "ab");
        x.keep();
        x.type('C');
        x.drop(0);
        due("THE WORD", word(x), "abC");
        due("KEPT", x.back() + word(x), "0ab");
        due("worth", x.worth(3, 2, 1), NO);
    }

    private static void promise15() {
        edge("15: BAD: n, of 6", () -> numbersOfRename(new NameSeeker(), 6));
        edge("15: BAD: n, of 1", () -> numbersOfRename(laid("s0,a;"), 1));
        edge("15: BAD: n, of 8", () -> numbersOfRename(laid(EIGHT), 8));
        edge("15: BAD: KIND 0 to 3", WordEdgeTest::renameKinds);
        edge("15: NO: it is, of each KIND", WordEdgeTest::renameNo);
        edge("15: BAD is ahead of NO", WordEdgeTest::renameBadAheadOfNo);
        edge("15: which it was, of each KIND", WordEdgeTest::renameWas);
        edge("15: the AGE: 1 more by each that is done", WordEdgeTest::renameAge);
        edge("15: no AGE by BAD and NO", WordEdgeTest::renameNoAge);
        edge("15: the others are as they were", WordEdgeTest::renameOthers);
        edge("15: SCORES are worked out anew", WordEdgeTest::renameScores);
        edge("15: of another KIND until it is LAID anew", WordEdgeTest::renameUntilLaid);
    }

    private static void numbersOfRename(NameSeeker x, int size) {
        for (int n : new int[] {MIN, -2, -1, size, size + 1, 8, MAX}) {
            for (int kind = -1; kind <= 4; kind++) {
                due("rename " + n + ", " + kind, x.rename(n, kind), BAD);
            }
        }
        int kind = x.name(size - 1, 0);
        due("the last", x.rename(size - 1, (kind + 1) % 4), kind);
    }

    private static void renameKinds() {
        for (int kind : new int[] {MIN, -2, -1, 4, 5, MAX}) {
            due("kind " + kind, new NameSeeker().rename(0, kind), BAD);
        }
        for (int kind = 1; kind <= 3; kind++) {
            NameSeeker x = new NameSeeker();
            due("kind " + kind, x.rename(0, kind) + " " + x.name(0, 0), "0 " + kind);
        }
        due("kind 0", new NameSeeker().rename(4, 0), 3);
    }

    private static void renameNo() {
        NameSeeker x = laid(FOUR_KINDS);
        for (int kind = 0; kind < 4; kind++) {
            due("it is " + kind, x.rename(kind, kind), NO);
        }
        x.rename(0, 2);
        due("it is now", x.rename(0, 2), NO);
        due("it is no longer", x.rename(0, 0), 2);
    }

    private static void renameBadAheadOfNo() {
        NameSeeker x = laid("s3,a;");
        due("kind 4", x.rename(0, 4), BAD);
        due("no NAME", x.rename(1, 3), BAD);
        due("it is", x.rename(0, 3), NO);
    }

    private static void renameWas() {
        for (int was = 0; was < 4; was++) {
            for (int kind = 0; kind < 4; kind++) {
                NameSeeker x = laid(FOUR_KINDS);
                due(was + " to " + kind, x.rename(was, kind), was == kind ? NO : was);
                due("it is", x.name(was, 0), kind);
            }
        }
    }

    private static void renameAge() {
        NameSeeker x = laid(FOUR_KINDS);
        for (int i = 1; i <= 12; i++) {
            x.rename(0, i % 4);
            due("AGE " + i, x.count(6), 2 + i);
        }
    }

    private static void renameNoAge() {
        NameSeeker x = laid(FOUR_KINDS);
        x.rename(0, 0);
        x.rename(0, 4);
        x.rename(0, -1);
        x.rename(4, 0);
        x.rename(-1, 0);
        due("the AGE", x.count(6), 2);
    }

    private static void renameOthers() {
        NameSeeker x = laid("s0,a;s0,b;s0,c;");
        x.pick(1);
        x.rename(1, 3);
        due("names", names(x), "0a,1,6,0,1 3b,1,7,1,1 0c,1,8,0,1");
    }

    private static void renameScores() {
        NameSeeker x = type(laid("s0,Axxb;w4,0,1;"), "ab");
        int[] due = {102, NONE, 106, 104};
        for (int i = 0; i < 12; i++) {
            due("of KIND " + i % 4, x.score(0), due[i % 4]);
            x.rename(0, (i + 1) % 4);
        }
        sought(x, "none is known by another AGE", 0, 12);
    }

    private static void renameUntilLaid() {
        NameSeeker x = laid("s1,a;");
        x.rename(0, 3);
        x.lay();
        due("the KIND", x.name(0, 0), 1);
    }

    private static void promise16() {
        edge("16: BAD: B 0 to 9", () -> figures(0));
        edge("16: BAD: R 0 to 9", () -> figures(1));
        edge("16: BAD: G 0 to 9", () -> figures(2));
        edge("16: NO: they are so", WordEdgeTest::worthNo);
        edge("16: one that is another is enough", WordEdgeTest::worthOneOther);
        edge("16: BAD is ahead of NO", WordEdgeTest::worthBadAheadOfNo);
        edge("16: the AGE: 1 more by each that is done", WordEdgeTest::worthAge);
        edge("16: no AGE by BAD and NO", WordEdgeTest::worthNoAge);
        edge("16: nothing changes by BAD", WordEdgeTest::worthBadChangesNothing);
        edge("16: B, R, G each in its place", WordEdgeTest::worthPlaces);
        edge("16: SCORES are worked out anew", WordEdgeTest::worthScores);
        edge("16: the AGE of 512 calls", WordEdgeTest::worthMost);
    }

    private static int worth(NameSeeker x, int which, int figure, int others) {
        return x.worth(which == 0 ? figure : others, which == 1 ? figure : others, which == 2 ? figure : others);
    }

    private static void figures(int which) {
        for (int others : new int[] {0, 5, 9}) {
            for (int figure : new int[] {MIN, -2, -1, 10, 11, MAX}) {
                due("figure " + figure, worth(new NameSeeker(), which, figure, others), BAD);
            }
            for (int figure : new int[] {0, 1, 8, 9}) {
                NameSeeker x = new NameSeeker();
                due("figure " + figure, worth(x, which, figure, others), 2);
                due("it is so", x.count(1 + which), figure);
            }
        }
    }

    private static void worthNo() {
        due("at first", new NameSeeker().worth(4, 3, 1), NO);
        due("LAID without", laid("s0,a;").worth(3, 2, 1), NO);
        due("LAID with", laid("s0,a;w0,9,5;").worth(0, 9, 5), NO);
        NameSeeker x = new NameSeeker();
        x.worth(0, 0, 0);
        due("done", x.worth(0, 0, 0), NO);
        x.worth(9, 9, 9);
        due("done again", x.worth(9, 9, 9), NO);
        due("no longer", x.worth(0, 0, 0), 4);
    }

    private static void worthOneOther() {
        due("B", new NameSeeker().worth(5, 3, 1), 2);
        due("R", new NameSeeker().worth(4, 4, 1), 2);
        due("G", new NameSeeker().worth(4, 3, 0), 2);
        due("changed about", laid("s0,a;").worth(1, 2, 3), 3);
        due("changed about again", laid("s0,a;").worth(2, 3, 1), 3);
    }

    private static void worthBadAheadOfNo() {
        NameSeeker x = laid("s0,a;w9,9,9;");
        due("so, and one that is none", x.worth(9, 9, 10), BAD);
        due("one that is none, and so", x.worth(10, 9, 9), BAD);
        due("so", x.worth(9, 9, 9), NO);
        NameSeeker y = laid("s0,a;w0,0,0;");
        due("-1", y.worth(0, -1, 0), BAD);
        due("they are so", y.worth(0, 0, 0), NO);
    }

    private static void worthAge() {
        NameSeeker x = new NameSeeker();
        for (int i = 1; i <= 20; i++) {
            due("AGE " + i, x.worth(i % 10, 0, 0), 1 + i);
            due("told again", x.count(6), 1 + i);
        }
    }

    private static void worthNoAge() {
        NameSeeker x = new NameSeeker();
        x.worth(4, 3, 1);
        x.worth(10, 3, 1);
        x.worth(4, -1, 1);
        due("the AGE", x.count(6), 1);
        due("the next", x.worth(4, 3, 2), 2);
    }

    private static void worthBadChangesNothing() {
        NameSeeker x = type(new NameSeeker(), "of");
        int score = x.score(0);
        x.worth(9, 9, 10);
        x.worth(9, 10, 9);
        x.worth(-1, 9, 9);
        due("B, R, G", x.count(1) + " " + x.count(2) + " " + x.count(3), "4 3 1");
        due("the SCORE", x.score(0), score);
        sought(x, "it is known", 1, 1);
    }

    private static void worthPlaces() {
        NameSeeker x = laid("s0,xab_c;");
        x.worth(7, 5, 2);
        due("B, R, G", x.count(1) + " " + x.count(2) + " " + x.count(3), "7 5 2");
        due("B", type(x, "x").score(0), 57);
        due("R", type(x, "ab").score(0), 105);
        due("G", type(x, "xb").score(0), 105);
    }

    private static void worthScores() {
        NameSeeker x = type(laid("s0,a;"), "a");
        due("B 3", x.score(0), 53);
        x.worth(9, 2, 1);
        due("B 9", x.score(0), 59);
        x.worth(3, 2, 1);
        due("B 3 again", x.score(0), 53);
        sought(x, "none is known by another AGE", 0, 3);
    }

    private static void worthMost() {
        NameSeeker x = new NameSeeker();
        for (int i = 1; i <= 512; i++) {
            due("AGE " + i, x.worth(i % 2, 0, 0), 1 + i);
        }
    }
}

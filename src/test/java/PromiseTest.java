/** Each promise of ../shared/DOC.md by its number: ordinary inputs, the edges it names, wrong inputs. */
public final class PromiseTest extends Checks {
    public static void main(String[] args) {
        promise1New();
        promise2Write();
        promise3Wipe();
        promise4Fault();
        promise5Lay();
        promise5WhatGoesOn();
        promise6Name();
        promise7Sign();
        promise8Type();
        promise9Untype();
        promise10Roll();
        promise11Word();
        promise12Pick();
        promise13Forget();
        promise14Drop();
        promise15Rename();
        promise16Worth();
        promise17ScoreWorths();
        promise17ScoreSought();
        promise18List();
        promise18ListSought();
        promise19Best();
        promise20Ways();
        promise21Passes();
        promise22Asked();
        promise23Brief();
        promise24Pair();
        promise25Keep();
        promise26Back();
        promise27Count();
        end();
    }

    private static int score(String text, String letters) {
        return type(laid(text), letters).score(0);
    }

    private static String best(String text, String letters) {
        return best(type(laid(text), letters), 0);
    }

    private static void promise1New() {
        NameSeeker x = new NameSeeker();
        due("1: counts", counts(x), "6 4 3 1 6 0 1 0 0 1 0 0 0");
        String[] first = {"0openFile", "0open_file", "1OpenFolio", "2lastOpened", "3find_Of", "0poof"};
        for (int n = 0; n < first.length; n++) {
            due("1: name " + n, x.name(n, 0) + signs(x, n), first[n]);
            due("1: id " + n, x.name(n, 2), n);
            due("1: pick " + n, x.name(n, 3), 0);
        }
        due("1: nothing asked", x.asked(0), NONE);
        due("1: the text is empty", x.wipe(), 0);
        due("1: nothing kept", x.back(), NO);
        due("1: nothing typed", x.word(-1), 0);

        type(x, "of").roll();
        x.pick(1);
        x.list(-1);
        type(x, "").list(-1);
        x.keep();
        x.drop(0);
        x.worth(1, 1, 1);
        write(x, "s0,a;").lay();
        NameSeeker second = new NameSeeker();
        due("1: counts of a second one", counts(second), "6 4 3 1 6 0 1 0 0 1 0 0 0");
        due("1: a second one has its names", signs(second, 5), "poof");
        due("1: a second one has nothing asked", second.asked(0), NONE);
        second.list(-1);
        due("1: a second one knows nothing", second.count(7) + " " + second.count(8), "0 6");
        due("1: the first one is as it was", counts(x), "1 3 2 1 7 1 3 0 6 20264 0 5 0");
    }

    private static void promise2Write() {
        NameSeeker x = new NameSeeker();
        due("2: 32", x.write(32), 1);
        due("2: 126", x.write(126), 2);
        for (int letter : new int[] {31, 127, 0, -1, 32 + 65536, MIN, MAX}) {
            due("2: " + letter, x.write(letter), BAD);
        }
        due("2: BAD wrote nothing", x.count(11), 2);
        for (int i = 3; i <= 200; i++) {
            due("2: letter " + i, x.write('s'), i);
        }
        due("2: the 201st", x.write('s'), FULL);
        due("2: BAD is ahead of FULL", x.write(127), BAD);
        due("2: FULL wrote nothing", x.count(11), 200);
        x.wipe();
        due("2: after wipe", x.write('s'), 1);
    }

    private static void promise3Wipe() {
        NameSeeker x = new NameSeeker();
        due("3: empty", x.wipe(), 0);
        write(x, "s0,ab;w1,2");
        due("3: ten", x.wipe(), 10);
        due("3: again", x.wipe(), 0);
        due("3: no letters left", x.count(11), 0);
        write(x, "s0,q;");
        due("3: what was there does not come again", x.fault(), NONE);
        due("3: only what is new is laid", x.lay(), 1);
        x.wipe();
        due("3: what is laid stays", signs(x, 0), "q");
    }

    private static void fault(String text, int want) {
        due("4: fault of " + text, write(new NameSeeker(), text).fault(), want);
    }

    private static void promise4Fault() {
        for (String so : new String[] {"", "s0,a;", "s1,Z;", "s2,_;", "s3,z_A;", "s0,abcdefghijkl;", "w0,0,0;", "w9,9,9;",
            "w1,2,3;s0,a;w4,5,6;", "w1,2,3;w4,5,6;", "s0,s;s0,w;"}) {
            fault(so, NONE);
        }
        for (String not : new String[] {"s", "s0", "s0,", "s0,;", "s0,a", "s4,a;", "s-,a;", "s/,a;", "s:,a;", "s00,a;", "s0a;", "s0,,a;", "s0,a,b;",
            "s0,abcdefghijklm;", "s0,abcdefghijklmn;", "s0,a1;", "s0,a b;", "s0,a-b;", "s0,a@;", "s0,a[;", "s0,a`;", "s0,a{;", "s,a;", "sa,a;",
            "w", "w1", "w1,2", "w1,2,", "w1,2,3", "w1,2;", "w,1,2;", "w10,2,3;", "w1,2,33;", "w1,2,3,4;", "w1;2;3;", "w1,a,3;",
            "w/,1,1;", "w:,1,1;", "w1,/,1;", "w1,:,1;", "w1,1,/;", "w1,1,:;", "w1.2,3;", "w1,2.3;",
            "S0,a;", "W1,2,3;", "x", ";", " s0,a;", "0"}) {
            fault(not, 0);
            fault("s0,abc;" + not, 7);
            fault("w1,2,3;s0,a;" + not + "s0,b;", 12);
        }
        fault("s0,a;;", 5);
        fault("s0,a;w1,2,x;x", 5);
        String eight = "s0,a;s1,b;s2,c;s3,d;s0,a;s1,b;s2,c;s3,d;";
        fault(eight, NONE);
        fault(eight + "w1,2,3;", NONE);
        fault(eight + "s0,a;", 40);
        fault(eight + "w1,2,3;s0,a;x", 47);
        fault("x" + eight + "s0,a;", 0);
        NameSeeker x = write(new NameSeeker(), "s0,a");
        due("4: not yet behind its ;", x.fault(), 0);
        x.write(';');
        due("4: behind its ;", x.fault(), NONE);
    }

    private static void promise5Lay() {
        NameSeeker x = new NameSeeker();
        type(x, "of");
        x.keep();
        x.pick(2);
        for (String not : new String[] {"", "w1,2,3;", "x", "s0,a;x", "s0,a", "w9,9,9;s4,a;"}) {
            write(x, not);
            due("5: lay of " + not, x.lay(), NO);
        }
        due("5: NO changes nothing", counts(x), "6 4 3 1 6 1 1 0 0 1 1 12 801");
        due("5: NO leaves the pick", x.name(2, 3), 1);

        write(x, "s3,b_C;w1,2,3;s1,Q;w5,0,7;");
        due("5: two names", x.lay(), 2);
        due("5: counts", counts(x), "2 5 0 7 8 1 2 0 0 1 0 26 0");
        due("5: the first", x.name(0, 0) + signs(x, 0), "3b_C");
        due("5: the second", x.name(1, 0) + signs(x, 1), "1Q");
        due("5: no third", x.sign(2, 0), BAD);
        due("5: nothing typed", x.word(-1), 0);
        due("5: nothing kept", x.back(), NO);
        due("5: no picks", x.name(0, 3) + x.name(1, 3), 0);
        due("5: the text stays", x.lay(), 2);

        due("5: 3, 2, 1 without", counts(laid("s0,a;")), "1 3 2 1 7 0 2 0 0 1 0 5 0");
        write(x, "s0,a;");
        x.lay();
        due("5: 3, 2, 1 without, after others", x.count(1) + "" + x.count(2) + x.count(3), "321");
        write(x, "s0,a;s1,b;s2,c;s3,d;s0,abcdefghijkl;s1,b;s2,c;s3,__A;");
        due("5: eight", x.lay(), 8);
        due("5: the longest", signs(x, 4), "abcdefghijkl");
        due("5: the last", x.name(7, 0) + signs(x, 7), "3__A");
    }

    private static void promise5WhatGoesOn() {
        NameSeeker x = new NameSeeker();
        x.pick(1);
        x.pick(0);
        type(x, "p");
        x.list(-1);
        x.list(-1);
        type(x, "");
        x.roll();
        String before = x.count(5) + " " + x.count(7) + " " + x.count(8) + " " + x.count(9);
        due("5: what goes on", before, "2 5 5 20264");
        write(x, "s0,ap;s0,p;");
        x.lay();
        due("5: it goes on", x.count(5) + " " + x.count(7) + " " + x.count(8) + " " + x.count(9), before);
        due("5: ids go on", x.name(0, 2) + " " + x.name(1, 2), "6 7");
        due("5: asked goes on", x.asked(0) + " " + x.asked(1) + " " + x.asked(2), "16 16 " + NONE);
        due("5: picks do not", x.name(0, 3) + " " + x.name(1, 3), "0 0");
        due("5: the tick goes on", x.pick(1), 3);
        x.lay();
        due("5: ids of what is laid again", x.name(0, 2) + " " + x.name(1, 2), "8 9");
        due("5: the age", x.count(6), 3);
        x.drop(0);
        x.lay();
        due("5: ids after a drop", x.name(0, 2) + " " + x.name(1, 2), "10 11");
    }

    private static int beginnings(String name) {
        return laid("s0," + name + ";").name(0, 4);
    }

    private static void promise6Name() {
        NameSeeker x = laid("s0,a;s1,Bc;s2,d_e;s3,fGhI;");
        x.pick(2);
        x.pick(2);
        x.pick(0);
        for (int n = 0; n < 4; n++) {
            due("6: kind", x.name(n, 0), n);
            due("6: signs", x.name(n, 1), n + 1);
            due("6: id", x.name(n, 2), 6 + n);
            due("6: pick", x.name(n, 3), new int[] {3, 0, 2, 0}[n]);
            due("6: beginnings", x.name(n, 4), new int[] {1, 1, 5, 11}[n]);
        }
        for (int n : new int[] {-1, 4, 8, MIN, MAX}) {
            due("6: name " + n, x.name(n, 0), BAD);
        }
        for (int what : new int[] {-1, 5, MIN, MAX}) {
            due("6: what " + what, x.name(0, what), BAD);
        }
        due("6: a _ first", beginnings("_a"), 2);
        due("6: only _", beginnings("___"), 0);
        due("6: behind two _", beginnings("a__b"), 9);
        due("6: great letters in a row", beginnings("ABCd"), 1);
        due("6: great behind small", beginnings("aBcD"), 11);
        due("6: great behind _", beginnings("a_B_c"), 21);
        due("6: _ behind small", beginnings("ab_"), 1);
        due("6: small behind great", beginnings("aBcd"), 3);
        due("6: the last of twelve", beginnings("aaaaaaaaaaaA"), 1 + 2048);
        due("6: a to z, A to Z", beginnings("zAaZ_z_Z"), 1 + 2 + 8 + 32 + 128);
    }

    private static void promise7Sign() {
        NameSeeker x = laid("s0,a_Z;s0,q;");
        due("7: signs", x.sign(0, 0) + " " + x.sign(0, 1) + " " + x.sign(0, 2) + " " + x.sign(1, 0), "97 95 90 113");
        due("7: not so many", x.sign(0, 3), NONE);
        due("7: not so many in the other", x.sign(1, 1), NONE);
        due("7: far too many", x.sign(1, MAX), NONE);
        due("7: below 0", x.sign(0, -1), BAD);
        due("7: far below 0", x.sign(0, MIN), BAD);
        for (int n : new int[] {-1, 2, MIN, MAX}) {
            due("7: name " + n, x.sign(n, 0), BAD);
            due("7: BAD is ahead of NONE", x.sign(n, 50), BAD);
        }
        due("7: twelve", laid("s0,abcdefghijkl;").sign(0, 11), (int) 'l');
        due("7: no thirteenth", laid("s0,abcdefghijkl;").sign(0, 12), NONE);
    }

    private static void promise8Type() {
        NameSeeker x = new NameSeeker();
        for (int letter : new int[] {'a' - 1, 'z' + 1, 'A' - 1, 'Z' + 1, '_', '0', 0, -1, 'a' + 65536, MIN, MAX}) {
            due("8: " + letter, x.type(letter), BAD);
        }
        due("8: BAD types nothing", x.word(-1), 0);
        String letters = "azAZmM";
        for (int i = 0; i < 6; i++) {
            due("8: " + letters.charAt(i), x.type(letters.charAt(i)), i + 1);
        }
        due("8: a seventh", x.type('a'), FULL);
        due("8: BAD is ahead of FULL", x.type('_'), BAD);
        due("8: the word", word(x), letters);
        x.untype();
        due("8: room again", x.type('b'), 6);
    }

    private static void promise9Untype() {
        NameSeeker x = new NameSeeker();
        due("9: none", x.untype(), NO);
        type(x, "aZ");
        due("9: the last", x.untype(), (int) 'Z');
        due("9: one is left", word(x), "a");
        due("9: the first", x.untype(), (int) 'a');
        due("9: none is left", x.untype(), NO);
        due("9: still none", x.word(-1), 0);
    }

    private static void promise10Roll() {
        NameSeeker x = new NameSeeker();
        long seed = 1;
        for (int i = 0; i < 100; i++) {
            seed = (7919 * seed + 12345) % 65521;
            due("10: letter " + i, x.roll(), (int) ('a' + seed % 26));
            due("10: seed " + i, (long) x.count(9), seed);
            due("10: it is typed", x.word(Math.min(i, 5)), (int) ('a' + seed % 26));
            if (i >= 5) {
                x.untype();
            }
        }
        type(x, "aaaaaa");
        due("10: FULL", x.roll(), FULL);
        due("10: the seed stays", (long) x.count(9), seed);
        due("10: the word stays", word(x), "aaaaaa");
    }

    private static void promise11Word() {
        NameSeeker x = new NameSeeker();
        due("11: how many at first", x.word(-1), 0);
        due("11: none at first", x.word(0), NONE);
        type(x, "bC");
        due("11: letters", x.word(0) + " " + x.word(1), "98 67");
        due("11: how many", x.word(-1), 2);
        due("11: not so many", x.word(2), NONE);
        due("11: far too many", x.word(MAX), NONE);
        due("11: below -1", x.word(-2), BAD);
        due("11: far below -1", x.word(MIN), BAD);
        type(x, "abcdef");
        due("11: the sixth", x.word(5), (int) 'f');
        due("11: no seventh", x.word(6), NONE);
    }

    private static void promise12Pick() {
        NameSeeker x = laid("s0,ab;s0,ab;s0,ab;");
        due("12: the first tick", x.pick(2), 1);
        due("12: the second", x.pick(1), 2);
        due("12: again", x.pick(2), 3);
        due("12: the ticks", x.name(0, 3) + " " + x.name(1, 3) + " " + x.name(2, 3), "0 2 3");
        for (int n : new int[] {-1, 3, MIN, MAX}) {
            due("12: name " + n, x.pick(n), BAD);
        }
        due("12: BAD does not tick", x.count(5), 3);
        due("12: a pick is no age", x.count(6), 2);
        type(x, "a");
        due("12: the list has the later pick ahead", list(x), "210");
    }

    private static void promise13Forget() {
        NameSeeker x = laid("s0,ab;s0,ab;");
        due("13: never picked", x.forget(0), NO);
        x.pick(0);
        x.pick(0);
        x.pick(1);
        due("13: its tick", x.forget(0), 2);
        due("13: as never picked", x.name(0, 3), 0);
        due("13: again", x.forget(0), NO);
        due("13: the other's stays", x.name(1, 3), 3);
        due("13: the tick stays", x.count(5), 3);
        for (int n : new int[] {-1, 2, MIN, MAX}) {
            due("13: name " + n, x.forget(n), BAD);
        }
        due("13: the next pick", x.pick(0), 4);
        x.forget(1);
        x.forget(0);
        due("13: the list is as never picked", list(x), "01");
    }

    private static void promise14Drop() {
        NameSeeker x = laid("s0,a;s1,bc;s2,cde;s3,defg;");
        x.pick(3);
        x.pick(1);
        type(x, "e");
        x.keep();
        for (int n : new int[] {-1, 4, MIN, MAX}) {
            due("14: name " + n, x.drop(n), BAD);
        }
        due("14: three left", x.drop(1), 3);
        due("14: names", signs(x, 0) + " " + signs(x, 1) + " " + signs(x, 2), "a cde defg");
        due("14: kinds", x.name(0, 0) + "" + x.name(1, 0) + x.name(2, 0), "023");
        due("14: ids", x.name(0, 2) + "," + x.name(1, 2) + "," + x.name(2, 2), "6,8,9");
        due("14: picks", x.name(0, 3) + "" + x.name(1, 3) + x.name(2, 3), "001");
        due("14: no fourth", x.name(3, 0), BAD);
        due("14: counts", counts(x), "3 3 2 1 10 2 2 0 0 1 1 26 5");
        due("14: the last", x.drop(2), 2);
        due("14: the first", x.drop(0), 1);
        due("14: who is left", signs(x, 0), "cde");
        due("14: the only one", x.drop(0), NO);
        due("14: BAD is ahead of NO", x.drop(1), BAD);
        due("14: still there", signs(x, 0), "cde");
        NameSeeker y = laid("s0,a;s0,b;s0,c;s0,d;s0,e;s0,f;s0,g;s0,h;");
        due("14: of eight the first", y.drop(0), 7);
        due("14: of seven the last", y.drop(6), 6);
        due("14: the six between", signs(y, 0) + signs(y, 1) + signs(y, 4) + signs(y, 5), "bcfg");
        x.lay();
        due("14: laid anew they are all there", signs(x, 0) + signs(x, 1) + signs(x, 2) + signs(x, 3), "abccdedefg");
    }

    private static void promise15Rename() {
        NameSeeker x = laid("s0,Ab;s3,b;");
        due("15: it is", x.rename(0, 0), NO);
        due("15: which it was", x.rename(0, 1), 0);
        due("15: then", x.rename(0, 3), 1);
        due("15: the age", x.count(6), 4);
        due("15: the kind", x.name(0, 0) + "" + x.name(1, 0), "33");
        for (int n : new int[] {-1, 2, MIN, MAX}) {
            due("15: name " + n, x.rename(n, 1), BAD);
        }
        for (int kind : new int[] {-1, 4, MIN, MAX}) {
            due("15: kind " + kind, x.rename(0, kind), BAD);
        }
        due("15: the other", x.rename(1, 2), 3);
        due("15: NO and BAD are no age", x.count(6), 5);
        type(x, "a");
        due("15: LOOSE", x.score(0), 53);
        x.rename(0, 2);
        due("15: TITLED", x.score(0), 56);
        x.rename(0, 1);
        due("15: EXACT", x.score(0), NONE);
        x.rename(0, 0);
        due("15: PLAIN", x.score(0), 53);
        due("15: the id stays", x.name(0, 2), 6);
    }

    private static void promise16Worth() {
        NameSeeker x = laid("s0,a_bcd;");
        due("16: they are so", x.worth(3, 2, 1), NO);
        due("16: the age", x.worth(3, 2, 2), 3);
        due("16: one other", x.worth(3, 1, 2), 4);
        due("16: another", x.worth(0, 1, 2), 5);
        due("16: the greatest", x.worth(9, 9, 9), 6);
        due("16: the least", x.worth(0, 0, 0), 7);
        for (int figure : new int[] {-1, 10, MIN, MAX}) {
            due("16: B " + figure, x.worth(figure, 0, 0), BAD);
            due("16: R " + figure, x.worth(0, figure, 0), BAD);
            due("16: G " + figure, x.worth(0, 0, figure), BAD);
        }
        due("16: as they were", x.count(1) + "" + x.count(2) + x.count(3) + " " + x.count(6), "000 7");
        x.worth(7, 5, 1);
        due("16: B, R, G", x.count(1) + "" + x.count(2) + x.count(3), "751");
        due("16: what a name scores by it", type(x, "abc").score(0), 150 + 14 + 5 - 1);
    }

    private static void promise17ScoreWorths() {
        due("17: empty word", score("s0,abc;", ""), 0);
        due("17: one place", score("s0,abc;w5,7,2;", "b"), 50);
        due("17: a beginning", score("s0,abc;w5,7,2;", "a"), 55);
        due("17: in a row", score("s0,abc;w5,7,2;", "bc"), 107);
        due("17: a gap of two", score("s0,xaxxb;w5,7,2;", "ab"), 96);
        due("17: no gap ahead or behind", score("s0,xxabxx;w5,7,2;", "ab"), 107);
        due("17: all three", score("s0,ab_cd_e;w5,7,2;", "bcde"), 200 + 10 + 7 - 4);
        due("17: no way", score("s0,abc;", "ca"), NONE);
        due("17: each place once", score("s0,abc;", "aa"), NONE);
        due("17: great and small alike", score("s0,aBc;w0,1,0;", "AbC"), 152);
        due("17: EXACT, the same", score("s1,aBc;w0,1,0;", "aBc"), 152);
        due("17: EXACT, great for small", score("s1,aBc;w0,1,0;", "ABc"), NONE);
        due("17: EXACT, small for great", score("s1,aBc;w0,1,0;", "abc"), NONE);
        due("17: TITLED, first place", score("s2,aB;w4,0,0;", "a"), 58);
        due("17: TITLED, another beginning", score("s2,aB;w4,0,0;", "b"), 54);
        due("17: TITLED, a _ first", score("s2,_B;w4,0,0;", "b"), 54);
        due("17: PLAIN, first place", score("s0,aB;w4,0,0;", "ab"), 108);
        due("17: LOOSE, gaps", score("s3,axxbxc;w0,4,9;", "abc"), 150);
        due("17: LOOSE, rows", score("s3,axxbc;w0,4,9;", "abc"), 154);
        due("17: TITLED, gaps", score("s2,axxb;w0,4,9;", "ab"), 82);
        due("17: the widest gap", score("s0,axxxxxxxxxxb;w0,0,9;", "ab"), 10);
        due("17: the greatest way", score("s0,oxo_f;w0,0,1;", "of"), 99);
        due("17: a beginning is worth a gap", score("s0,oxxf;w3,0,1;", "of"), 101);
        due("17: six letters", score("s0,abcdef;w9,9,9;", "abcdef"), 300 + 9 + 45);
        NameSeeker x = new NameSeeker();
        for (int n : new int[] {-1, 6, MIN, MAX}) {
            due("17: name " + n, x.score(n), BAD);
        }
        due("17: BAD seeks nothing", x.count(7) + " " + x.count(8), "0 0");
    }

    private static void promise17ScoreSought() {
        NameSeeker x = new NameSeeker();
        x.score(0);
        sought(x, "17: worked out", 0, 1);
        x.score(0);
        sought(x, "17: known", 1, 1);
        x.score(1);
        sought(x, "17: another id", 1, 2);
        type(x, "q");
        due("17: none", x.score(0), NONE);
        sought(x, "17: a name that does not pass is sought too", 1, 3);
        due("17: none again", x.score(0), NONE);
        sought(x, "17: none is known, too", 2, 3);
        type(x, "Q").score(0);
        sought(x, "17: another code", 2, 4);
        x.worth(4, 3, 2);
        x.score(0);
        sought(x, "17: another age by worth", 2, 5);
        x.worth(4, 3, 1);
        x.score(0);
        sought(x, "17: an age does not come again", 2, 6);
        x.rename(5, 1);
        x.score(0);
        sought(x, "17: another age by rename", 2, 7);
        x.drop(1);
        x.pick(0);
        x.score(0);
        sought(x, "17: no other age by drop and pick", 3, 7);

        // ID 0, CODE 0, AGE 1 and ID 5, CODE 19, AGE 1 have the same PLACE: 155 + 133 is a multiple of 32
        NameSeeker y = new NameSeeker();
        y.score(0);
        type(y, "s").score(4);
        type(y, "").score(0);
        sought(y, "17: another place takes nothing", 1, 2);
        type(y, "s").score(5);
        type(y, "").score(0);
        sought(y, "17: the same place takes it", 1, 4);
        type(y, "s").score(5);
        sought(y, "17: and is taken in turn", 1, 5);
        type(y, "s").score(4);
        sought(y, "17: the other is still there", 2, 5);

        // CODES beyond an int: zzzzzz leaves 20 and ZZZZZZ 8 modulo 32, as t and h do, and so have their PLACES
        NameSeeker z = type(new NameSeeker(), "zzzzzz");
        z.score(0);
        z.score(0);
        sought(z, "17: a great code is known", 1, 1);
        type(z, "ZZZZZZ").score(0);
        z.score(0);
        sought(z, "17: the greatest code is known", 2, 2);
        type(z, "s").score(0);
        type(z, "zzzzzz").score(0);
        sought(z, "17: another place takes nothing from a great code", 3, 3);
        type(z, "t").score(0);
        type(z, "zzzzzz").score(0);
        sought(z, "17: the place of a great code", 3, 5);
        type(z, "h").score(0);
        type(z, "ZZZZZZ").score(0);
        sought(z, "17: the place of the greatest code", 3, 7);
    }

    private static void promise18List() {
        NameSeeker x = laid("s0,xab;s0,ab;s0,aab;s0,b;s0,ab_;s0,ab;");
        type(x, "ab");
        due("18: how many", x.list(-1), 5);
        due("18: score, then length, then number", list(x), "15402");
        due("18: not so many", x.list(5), NONE);
        due("18: far too many", x.list(MAX), NONE);
        due("18: below -1", x.list(-2), BAD);
        due("18: far below -1", x.list(MIN), BAD);
        x.pick(4);
        due("18: picked ahead of the shorter", list(x), "41502");
        x.pick(5);
        due("18: the later pick ahead", list(x), "54102");
        x.pick(0);
        due("18: a pick does not beat a score", list(x), "54102");
        x.forget(4);
        due("18: forgotten", list(x), "51402");
        due("18: the empty word lists all", type(x, "").list(-1), 6);
        due("18: by pick, length, number", list(x), "053124");
        due("18: none", type(x, "zz").list(-1), 0);
        due("18: no first", x.list(0), NONE);
        NameSeeker y = laid("s1,Ab;s0,Ab;");
        due("18: passes, but has no score", type(y, "ab").list(-1), 1);
        due("18: the other", list(y), "1");
    }

    private static void promise18ListSought() {
        NameSeeker x = laid("s1,Ab;s0,Ab;s0,c;");
        type(x, "a");
        x.list(-2);
        sought(x, "18: BAD seeks nothing", 0, 0);
        x.list(5);
        sought(x, "18: NONE seeks those that pass", 0, 2);
        x.list(0);
        sought(x, "18: the i-th seeks all", 2, 2);
        x.list(-1);
        sought(x, "18: how many seeks all", 4, 2);
        x.score(1);
        sought(x, "18: score knows what list worked out", 5, 2);
        x.best(0, 0);
        x.ways(0);
        x.passes(0);
        x.passes(1);
        x.brief(0);
        x.pair(0, 1);
        sought(x, "18: no other call seeks", 5, 2);

        // which is SOUGHT first can't be told from outside: no two NAMES of one lot have the same PLACE
        NameSeeker y = laid("s0,a;s0,a;s0,a;s0,a;s0,a;s0,a;s0,a;");
        y.list(-1);
        y.list(-1);
        sought(y, "18: seven are at seven places", 7, 7);
        y.drop(6);
        y.list(-1);
        sought(y, "18: those that are left", 13, 7);
    }

    private static void promise19Best() {
        due("19: the beginning", best("s0,oxo_f;w3,0,1;", "of"), "0,4");
        due("19: the row", best("s0,aab;w0,1,1;", "ab"), "1,2");
        due("19: of several the first", best("s0,aab;w0,0,0;", "ab"), "0,2");
        due("19: of several the first, in the middle", best("s0,abbc;w0,0,0;", "abc"), "0,1,3");
        due("19: place by place", best("s0,abab;w0,0,0;", "ab"), "0,1");
        due("19: LOOSE, of several the first", best("s3,axaab;w0,0,9;", "ab"), "0,4");
        due("19: TITLED", best("s2,aA;w2,0,1;", "a"), "0");
        due("19: another beginning", best("s0,bab_b;w4,1,0;", "ab"), "1,4");
        due("19: great and small", best("s0,xOxF;w0,0,0;", "of"), "1,3");
        due("19: EXACT", best("s1,oOo;w0,0,0;", "Oo"), "1,2");
        due("19: six in twelve", best("s0,aaaaaaaaaaaa;w0,0,0;", "aaaaaa"), "0,1,2,3,4,5");
        NameSeeker x = type(laid("s0,ab;s0,ba;"), "ab");
        due("19: not so many", x.best(0, 2), NONE);
        due("19: far too many", x.best(0, MAX), NONE);
        due("19: no way", x.best(1, 0), NONE);
        due("19: k below 0", x.best(0, -1), BAD);
        due("19: k below 0, no way", x.best(1, MIN), BAD);
        for (int n : new int[] {-1, 2, MIN, MAX}) {
            due("19: name " + n, x.best(n, 0), BAD);
            due("19: BAD is ahead of NONE", x.best(n, 9), BAD);
        }
        due("19: the empty word", type(x, "").best(0, 0), NONE);
    }

    private static int ways(String text, String letters) {
        return type(laid(text), letters).ways(0);
    }

    private static void promise20Ways() {
        due("20: the empty word", ways("s0,abc;", ""), 1);
        due("20: one letter", ways("s0,abAb;", "a"), 2);
        due("20: EXACT", ways("s1,abAb;", "a"), 1);
        due("20: two", ways("s0,aabb;", "ab"), 4);
        due("20: none", ways("s0,ba;", "ab"), 0);
        due("20: the same letter", ways("s0,aaaa;", "aa"), 6);
        due("20: most", ways("s3,aAaAaAaAaAaA;", "AAAaaa"), 924);
        due("20: too short", ways("s0,aaaaa;", "aaaaaa"), 0);
        NameSeeker x = new NameSeeker();
        for (int n : new int[] {-1, 6, MIN, MAX}) {
            due("20: name " + n, x.ways(n), BAD);
        }
    }

    private static void promise21Passes() {
        NameSeeker x = laid("s0,ab;s1,AB;s0,ba;s0,bc;s0,_;");
        due("21: the empty word passes", x.passes(0), 31);
        due("21: the empty word has a way", x.passes(1), 31);
        type(x, "ab");
        due("21: pass, whatever kind and order", x.passes(0), 7);
        due("21: have a way", x.passes(1), 1);
        type(x, "AB");
        due("21: great ones have a way", x.passes(1), 3);
        type(x, "aab");
        due("21: pass though there is but one", x.passes(0), 7);
        due("21: have no way then", x.passes(1), 0);
        type(x, "z");
        due("21: none", x.passes(0) + x.passes(1), 0);
        for (int what : new int[] {-1, 2, MIN, MAX}) {
            due("21: what " + what, x.passes(what), BAD);
        }
        NameSeeker y = laid("s0,a;s0,a;s0,a;s0,a;s0,a;s0,a;s0,a;s0,Zz;");
        due("21: the eighth", type(y, "z").passes(0) + " " + y.passes(1), "128 128");
    }

    private static void promise22Asked() {
        NameSeeker x = new NameSeeker();
        for (int k : new int[] {-1, 6, MIN, MAX}) {
            due("22: k " + k, x.asked(k), BAD);
        }
        due("22: nothing yet", x.asked(0), NONE);
        type(x, "a").list(0);
        x.list(-2);
        x.score(0);
        due("22: only list(-1) asks", x.asked(0), NONE);
        String[] words = {"", "a", "z", "A", "Z", "aB", "zzzz"};
        int[] codes = {0, 1, 26, 27, 52, 81, (int) (26L * (53 * 53 * 53 + 53 * 53 + 54) % 100003)};
        for (int i = 0; i < words.length; i++) {
            type(x, words[i]).list(-1);
            due("22: the latest", x.asked(0), codes[i]);
        }
        for (int k = 0; k < 6; k++) {
            due("22: the k-th", x.asked(k), codes[6 - k]);
        }
        type(x, "ZZZZZZ").list(-1);
        due("22: the greatest code", x.asked(0), (int) (22164361128L % 100003));
        x.list(-1);
        due("22: the same again", x.asked(1), x.asked(0));
        due("22: the one ahead", x.asked(2), codes[6]);
        type(x, "b");
        due("22: as it was then", x.asked(0), 96220);
    }

    private static int brief(String text, int n) {
        return laid(text).brief(n);
    }

    private static void promise23Brief() {
        due("23: one letter", brief("s0,ba;", 0), 27);
        due("23: not the first by it", brief("s0,ba;s0,a;", 0), 54);
        due("23: two letters", brief("s0,xab;s0,ab;s0,xb;", 0), 27 * 24 + 1);
        due("23: two letters that are the same", brief("s0,aa;s0,a;", 0), 28);
        due("23: a ahead of z", brief("s0,zy;s0,y;", 0), 27 * 26);
        due("23: none", brief("s0,ab;s0,ab;", 1), NONE);
        due("23: the lower number", brief("s0,ab;s0,ab;", 0), 27);
        due("23: only _", brief("s0,_;", 0), NONE);
        due("23: EXACT has no small ones", brief("s1,AB;", 0), NONE);
        due("23: EXACT has one", brief("s1,AbA;", 0), 54);
        due("23: zz", brief("s0,zz;s0,z;", 0), 27 * 26 + 26);
        NameSeeker x = laid("s0,ab;s0,ab;");
        x.pick(1);
        due("23: by its pick", x.brief(1), 27);
        due("23: by the other's pick", x.brief(0), NONE);
        type(x, "b").keep();
        String before = counts(x);
        x.brief(0);
        due("23: it changes nothing", counts(x) + word(x), before + "b");
        NameSeeker eight = laid("s0,xa;s0,xb;s0,xc;s0,xd;s0,xe;s0,xf;s0,xg;s0,x;");
        due("23: the last of eight", eight.brief(7), 27 * 24);
        due("23: the first of eight", eight.brief(0), 27);
        NameSeeker dropped = laid("s0,xa;s0,a;");
        due("23: another is ahead", dropped.brief(0), 27 * 24);
        dropped.drop(1);
        due("23: it is dropped", dropped.brief(0), 27);
        due("23: what is worth counts", brief("s0,xa;s0,a;w0,0,0;", 0), 27 * 24);
        for (int n : new int[] {-1, 2, MIN, MAX}) {
            due("23: name " + n, x.brief(n), BAD);
        }
    }

    private static void promise24Pair() {
        NameSeeker x = laid("s0,aBzZ_;s1,Abq_;s2,q__;s3,_;s0,abcdefghijkl;");
        due("24: great or small", x.pair(0, 1), 2);
        due("24: the same name", x.pair(0, 0), 3);
        due("24: the other way round", x.pair(1, 0), 2);
        due("24: one", x.pair(1, 2), 1);
        due("24: a _ is no letter", x.pair(2, 3), 0);
        due("24: none", x.pair(0, 2), 0);
        due("24: twelve", x.pair(4, 4), 12);
        for (int n : new int[] {-1, 5, MIN, MAX}) {
            due("24: pair of " + n + " and 0", x.pair(n, 0), BAD);
            due("24: pair of 0 and " + n, x.pair(0, n), BAD);
        }
    }

    private static void promise25Keep() {
        NameSeeker x = type(new NameSeeker(), "aB");
        due("25: one", x.keep(), 1);
        due("25: the word stays", word(x), "aB");
        type(x, "c");
        due("25: two", x.keep(), 2);
        due("25: three", x.keep(), FULL);
        due("25: how many", x.count(10), 2);
        type(x, "ddd");
        x.back();
        due("25: the second", word(x), "c");
        x.back();
        due("25: the first", word(x), "aB");
        due("25: an empty word, too", type(x, "").keep(), 1);
        type(x, "q").back();
        due("25: the empty one", word(x), "");
    }

    private static void promise26Back() {
        NameSeeker x = new NameSeeker();
        due("26: none", x.back(), NO);
        type(x, "abcdef").keep();
        type(x, "X").keep();
        type(x, "yy");
        due("26: one left", x.back(), 1);
        due("26: kept last", word(x), "X");
        due("26: none left", x.back(), 0);
        due("26: kept first", word(x), "abcdef");
        due("26: NO", x.back(), NO);
        due("26: the word stays", word(x), "abcdef");
        type(x, "k").keep();
        x.untype();
        x.type('m');
        x.back();
        due("26: as it was when kept", word(x), "k");
        due("26: how many", x.count(10), 0);
    }

    private static void promise27Count() {
        NameSeeker x = laid("s0,abc;s0,b;s0,a;w7,8,9;");
        x.pick(0);
        x.pick(0);
        x.drop(1);
        x.rename(0, 3);
        x.roll();
        type(x, "aB");
        x.score(0);
        x.score(0);
        x.score(0);
        x.score(1);
        x.keep();
        int[] want = {2, 7, 8, 9, 9, 2, 3, 2, 2, 20264, 1, 24, 81};
        for (int what = 0; what < want.length; what++) {
            due("27: count " + what, x.count(what), want[what]);
        }
        for (int what : new int[] {-1, 13, MIN, MAX}) {
            due("27: what " + what, x.count(what), BAD);
        }
        due("27: a small letter", type(x, "z").count(12), 26);
        due("27: a great letter", type(x, "A").count(12), 27);
        due("27: the greatest", type(x, "ZZZZZZ").count(12), 96220);
    }
}

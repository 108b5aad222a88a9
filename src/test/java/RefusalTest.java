import java.util.function.Consumer;
import java.util.function.ToIntFunction;

/**
 * "BAD: a number is none that is told. NO: not as things stand. NONE: there is none. FULL. Of several the first;
 * nothing changes then (but by what is SOUGHT)": every call that can be refused, as things stand at first, in the
 * midst, with one NAME and with no room left, beside a twin that it is not called on.
 */
public final class RefusalTest extends Checks {
    private static String as;
    private static Consumer<NameSeeker> acts;

    public static void main(String[] args) {
        stand("new", x -> { }, 6, RefusalTest::refusedWhenNew);
        stand("midst", RefusalTest::midst, 4, RefusalTest::refusedInTheMidst);
        stand("one", RefusalTest::one, 1, RefusalTest::refusedWithOne);
        stand("full", RefusalTest::full, 8, RefusalTest::refusedWhenFull);
        stand("empty list", x -> type(x, "zq"), 6, RefusalTest::refusedWithEmptyList);
        stand("empty word", RefusalTest::emptyWord, 2, RefusalTest::refusedWithEmptyWord);
        edge("reading changes nothing", RefusalTest::readingChangesNothing);
        end();
    }

    private static void stand(String name, Consumer<NameSeeker> calls, int names, Runnable refusals) {
        as = name;
        acts = calls;
        edge("nothing changes by BAD, " + name, () -> bad(names));
        edge("nothing changes by NO, FULL, NONE, " + name, refusals);
    }

    private static void no(String call, ToIntFunction<NameSeeker> made, int want) {
        refused(as + ": " + call, acts, made, want);
    }

    /** Four NAMES of each KIND, two of them PICKED, a word that has a SCORE in two, an unfinished TEXT. */
    private static void midst(NameSeeker x) {
        write(x, "s0,ab;s1,aB;s2,a_b;s3,xab;w5,4,3;").lay();
        x.pick(3);
        x.pick(1);
        type(x, "ab").list(-1);
        x.keep();
        x.type('B');
        x.score(2);
        write(x, "s0,q");
    }

    private static void one(NameSeeker x) {
        write(x, "s1,Ab;w0,0,0;").lay();
        type(x, "A").score(0);
    }

    private static void full(NameSeeker x) {
        write(x, "s0,a;s0,b;s0,c;s0,d;s0,e;s0,f;s0,g;s0,h;").lay();
        type(x, "abcdef").list(-1);
        x.keep();
        x.keep();
        for (int i = 0; i < 5; i++) {
            x.list(-1);
        }
        write(x, "s2,xY;" + "w1,2,3;".repeat(27) + "s3,z;");
    }

    private static void emptyWord(NameSeeker x) {
        write(x, "s0,a;s0,_;").lay();
        x.wipe();
        x.list(-1);
    }

    private static void bad(int names) {
        for (int letter : new int[] {31, 127, -1, 32 + 256, 32 + 65536, MIN, MAX}) {
            no("write " + letter, x -> x.write(letter), BAD);
        }
        for (int letter : new int[] {'a' - 1, 'z' + 1, 'A' - 1, 'Z' + 1, '_', 'a' + 256, 'a' + 65536, -1, MIN, MAX}) {
            no("type " + letter, x -> x.type(letter), BAD);
        }
        for (int n : new int[] {-1, names, MIN, MAX}) {
            badName(n);
        }
        for (int what : new int[] {-1, 5, MIN, MAX}) {
            no("name, what " + what, x -> x.name(0, what), BAD);
        }
        for (int below : new int[] {-1, -2, MIN}) {
            no("sign, place " + below, x -> x.sign(0, below), BAD);
            no("best, k " + below, x -> x.best(0, below), BAD);
        }
        for (int below : new int[] {-2, -3, MIN}) {
            no("word " + below, x -> x.word(below), BAD);
            no("list " + below, x -> x.list(below), BAD);
        }
        for (int figure : new int[] {-1, 10, MIN, MAX}) {
            no("worth, B " + figure, x -> x.worth(figure, 9, 0), BAD);
            no("worth, R " + figure, x -> x.worth(0, figure, 9), BAD);
            no("worth, G " + figure, x -> x.worth(9, 0, figure), BAD);
        }
        for (int kind : new int[] {-1, 4, MIN, MAX}) {
            no("rename, kind " + kind, x -> x.rename(0, kind), BAD);
        }
        for (int what : new int[] {-1, 2, MIN, MAX}) {
            no("passes " + what, x -> x.passes(what), BAD);
        }
        for (int k : new int[] {-1, 6, MIN, MAX}) {
            no("asked " + k, x -> x.asked(k), BAD);
        }
        for (int what : new int[] {-1, 13, MIN, MAX}) {
            no("count " + what, x -> x.count(what), BAD);
        }
    }

    private static void badName(int n) {
        no("name " + n, x -> x.name(n, 0), BAD);
        no("sign " + n, x -> x.sign(n, 0), BAD);
        no("pick " + n, x -> x.pick(n), BAD);
        no("forget " + n, x -> x.forget(n), BAD);
        no("drop " + n, x -> x.drop(n), BAD);
        no("rename " + n, x -> x.rename(n, 3), BAD);
        no("score " + n, x -> x.score(n), BAD);
        no("best " + n, x -> x.best(n, 0), BAD);
        no("ways " + n, x -> x.ways(n), BAD);
        no("brief " + n, x -> x.brief(n), BAD);
        no("pair " + n + ", 0", x -> x.pair(n, 0), BAD);
        no("pair 0, " + n, x -> x.pair(0, n), BAD);
    }

    private static void refusedWhenNew() {
        no("fault of an empty text", x -> x.fault(), NONE);
        no("lay of an empty text", x -> x.lay(), NO);
        no("untype", x -> x.untype(), NO);
        no("word 0", x -> x.word(0), NONE);
        no("forget of what was never picked", x -> x.forget(0), NO);
        no("rename to the kind that it is", x -> x.rename(2, 1), NO);
        no("worth as they are", x -> x.worth(4, 3, 1), NO);
        no("best of the empty word", x -> x.best(0, 0), NONE);
        no("asked 0", x -> x.asked(0), NONE);
        no("asked 5", x -> x.asked(5), NONE);
        no("back", x -> x.back(), NO);
        no("sign behind the last", x -> x.sign(5, 4), NONE);
    }

    private static void refusedInTheMidst() {
        no("lay of what has a fault", x -> x.lay(), NO);
        no("word 3", x -> x.word(3), NONE);
        no("sign 2", x -> x.sign(0, 2), NONE);
        no("forget 0", x -> x.forget(0), NO);
        no("forget 2", x -> x.forget(2), NO);
        for (int n = 0; n < 4; n++) {
            int kind = n;
            no("rename to " + n, x -> x.rename(kind, kind), NO);
        }
        no("worth as they are", x -> x.worth(5, 4, 3), NO);
        no("best without a way", x -> x.best(0, 0), NONE);
        no("asked 1", x -> x.asked(1), NONE);
        no("brief", x -> x.brief(1), NONE);
    }

    private static void refusedWithOne() {
        no("drop of the only one", x -> x.drop(0), NO);
        no("rename to what it is", x -> x.rename(0, 1), NO);
        no("worth as they are", x -> x.worth(0, 0, 0), NO);
        no("forget", x -> x.forget(0), NO);
        no("back", x -> x.back(), NO);
        no("best 1", x -> x.best(0, 1), NONE);
        no("sign 2", x -> x.sign(0, 2), NONE);
        no("word 1", x -> x.word(1), NONE);
    }

    private static void refusedWhenFull() {
        no("write the 201st", x -> x.write('x'), FULL);
        no("write what would be BAD, too", x -> x.write(127), BAD);
        no("type a seventh", x -> x.type('g'), FULL);
        no("type what would be BAD, too", x -> x.type('_'), BAD);
        no("roll a seventh", x -> x.roll(), FULL);
        no("keep a third", x -> x.keep(), FULL);
        no("word 6", x -> x.word(6), NONE);
        no("best without a way", x -> x.best(7, 0), NONE);
        no("brief of the last", x -> x.brief(7), 27 * 8);
        no("fault", x -> x.fault(), NONE);
    }

    private static void refusedWithEmptyList() {
        no("best without a way", x -> x.best(0, 0), NONE);
        no("list beyond, where no NAME PASSES", x -> x.list(0), NONE);
        no("list far beyond, where no NAME PASSES", x -> x.list(MAX), NONE);
    }

    private static void refusedWithEmptyWord() {
        no("untype", x -> x.untype(), NO);
        no("brief of what has no letter", x -> x.brief(1), NONE);
        no("best", x -> x.best(1, 0), NONE);
        no("lay after wipe", x -> x.lay(), NO);
    }

    private static void readingChangesNothing() {
        as = "midst";
        acts = RefusalTest::midst;
        no("fault", x -> x.fault(), 0);
        no("name", x -> x.name(2, 4), 5);
        no("sign", x -> x.sign(2, 1), '_');
        no("word", x -> x.word(2), 'B');
        no("how many letters", x -> x.word(-1), 3);
        no("ways", x -> x.ways(1), 0);
        no("passes", x -> x.passes(0), 15);
        no("have a way", x -> x.passes(1), 0);
        no("asked", x -> x.asked(0), 55);
        no("brief", x -> x.brief(3), 27 * 24);
        no("pair", x -> x.pair(0, 3), 2);
        no("count", x -> x.count(12), 53 * 55 + 28);
        acts = x -> type(x, "of");
        no("best", x -> x.best(4, 1), 6);
    }
}

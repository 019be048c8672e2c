import java.util.function.Supplier;
import java.util.function.ToLongFunction;

/**
 * "Refused, changing nothing, the first of: BAD -2 a number is not as told; NO -3 as told; FULL -4."
 * Each call that can be refused, on each ground, where two grounds hold at once, and that all is as it was.
 */
public final class RefusalsTest {
    private static final int NONE = -1, BAD = -2, NO = -3, FULL = -4;
    private static final int LEAST = Integer.MIN_VALUE, MOST = Integer.MAX_VALUE;
    private static final Check CHECK = new Check("RefusalsTest");

    public static void main(String[] args) {
        nothingIsThere();
        numbersOfSongsAndHands();
        numbersOfHauls();
        numbersOfTasks();
        numbersOfWords();
        numbersOfMarksAndKin();
        whatIsFull();
        badComesAheadOfFull();
        badComesAheadOfNo();
        noComesAheadOfFull();
        badComesAheadOfNone();
        noComesAheadOfNone();
        refusedAgainAndAgain();
        CHECK.end();
    }

    private static void refused(String call, Supplier<HeaveSongs> made, ToLongFunction<HeaveSongs> given, int due) {
        Twins.unchanged(CHECK, call, made, given, due);
    }

    private static void badOfSome(String call, ToLongFunction<HeaveSongs> given) {
        refused(call, Made::some, given, BAD);
    }

    private static void nothingIsThere() {
        refused("song() of an empty row", Made::nothing, HeaveSongs::song, NO);
        refused("plan() of nothing", Made::nothing, HeaveSongs::plan, NO);
        refused("refrain without songs", Made::nothing, x -> x.refrain(0), BAD);
        refused("beatAt without songs", Made::nothing, x -> x.beatAt(0, 0), BAD);
        refused("late without hands", Made::nothing, x -> x.late(0, 0), BAD);
        refused("crew without hands", Made::nothing, x -> x.crew(1), BAD);
        refused("now without hands", Made::nothing, x -> x.now(0), BAD);
        refused("haul without songs", Made::nothing, x -> x.haul(0, 1, 0, 0), BAD);
        refused("won without a haul", Made::nothing, x -> x.won(0), NONE);
        refused("force without a haul", Made::nothing, x -> x.force(0), NONE);
        refused("planAt without tasks", Made::nothing, x -> x.planAt(0), BAD);
        refused("best of nothing", Made::nothing, x -> x.best(0, 0, 1, 0), BAD);
        refused("lines without songs", Made::nothing, x -> x.lines(0), BAD);
        refused("lineAt without songs", Made::nothing, x -> x.lineAt(0, 0, 0), BAD);
        refused("near without songs", Made::nothing, x -> x.near(0), BAD);
        refused("nearAt without songs", Made::nothing, x -> x.nearAt(0, 0), BAD);
        refused("who without songs", Made::nothing, x -> x.who(0, 0, 0, 0), BAD);
        refused("two without songs", Made::nothing, x -> x.two(0, 0, 0, 0), BAD);
        refused("apart without songs", Made::nothing, x -> x.apart(0, 0), BAD);
        refused("hangs without songs", Made::nothing, x -> x.hangs(0), BAD);
    }

    private static void numbersOfSongsAndHands() {
        for (int v : new int[] {LEAST, -1, 4, MOST}) {
            badOfSome("beat(" + v + ")", x -> x.beat(v));
            badOfSome("late(0, " + v + ")", x -> x.late(0, v));
        }
        for (int v : new int[] {LEAST, -1, 2, 6, MOST}) {
            badOfSome("refrain(" + v + ")", x -> x.refrain(v));
            badOfSome("beatAt(" + v + ", 0)", x -> x.beatAt(v, 0));
        }
        for (int v : new int[] {LEAST, -1, 1001, MOST}) {
            badOfSome("beatAt(0, " + v + ")", x -> x.beatAt(0, v));
        }
        for (int v : new int[] {LEAST, -1, 0, 101, MOST}) {
            badOfSome("hand(" + v + ", 1, 1, 1)", x -> x.hand(v, 1, 1, 1));
        }
        for (int v : new int[] {LEAST, -1, 31, MOST}) {
            badOfSome("hand(1, " + v + ", 1, 1)", x -> x.hand(1, v, 1, 1));
            badOfSome("hand(1, 1, " + v + ", 1)", x -> x.hand(1, 1, v, 1));
            badOfSome("hand(1, 1, 1, " + v + ")", x -> x.hand(1, 1, 1, v));
        }
        for (int v : new int[] {LEAST, -1, 3, 10, MOST}) {
            badOfSome("late(" + v + ", 0)", x -> x.late(v, 0));
            badOfSome("now(" + v + ")", x -> x.now(v));
        }
        for (int v : new int[] {LEAST, -1, 8, 1023, MOST}) {
            badOfSome("crew(" + v + ")", x -> x.crew(v));
        }
        for (int v : new int[] {LEAST, -1, 101, MOST}) {
            badOfSome("floor(" + v + ")", x -> x.floor(v));
            badOfSome("pause(" + v + ")", x -> x.pause(v));
        }
    }

    private static void numbersOfHauls() {
        for (int v : new int[] {LEAST, -1, 2, MOST}) {
            badOfSome("haul(" + v + ", 1, 0, 0)", x -> x.haul(v, 1, 0, 0));
        }
        for (int v : new int[] {LEAST, -1, 0, 3001, MOST}) {
            badOfSome("haul(0, " + v + ", 0, 0)", x -> x.haul(0, v, 0, 0));
        }
        for (int v : new int[] {LEAST, -1, 1001, MOST}) {
            badOfSome("haul(0, 1, " + v + ", 0)", x -> x.haul(0, 1, v, 0));
        }
        for (int v : new int[] {LEAST, -1, 51, MOST}) {
            badOfSome("haul(0, 1, 0, " + v + ")", x -> x.haul(0, 1, 0, v));
        }
        for (int v : new int[] {LEAST, -1}) {
            badOfSome("won(" + v + ")", x -> x.won(v));
            badOfSome("force(" + v + ")", x -> x.force(v));
        }
    }

    private static void numbersOfTasks() {
        for (int v : new int[] {LEAST, -1, 0, 3001, MOST}) {
            badOfSome("task(" + v + ", 0, 0)", x -> x.task(v, 0, 0));
        }
        for (int v : new int[] {LEAST, -1, 1001, MOST}) {
            badOfSome("task(1, " + v + ", 0)", x -> x.task(1, v, 0));
        }
        for (int v : new int[] {LEAST, -1, 51, MOST}) {
            badOfSome("task(1, 0, " + v + ")", x -> x.task(1, 0, v));
            badOfSome("between(" + v + ")", x -> x.between(v));
        }
        for (int v : new int[] {LEAST, -1, 2, 3, 4, MOST}) {
            badOfSome("planAt(" + v + ")", x -> x.planAt(v));
            badOfSome("best(" + v + ", 0, 1, 0)", x -> x.best(v, 0, 1, 0));
            badOfSome("best(0, " + v + ", 1, 0)", x -> x.best(0, v, 1, 0));
        }
        for (int v : new int[] {LEAST, -1, 0, 4, MOST}) {
            badOfSome("best(0, 0, " + v + ", 0)", x -> x.best(0, 0, v, 0));
        }
        for (int v : new int[] {LEAST, -1, 3, MOST}) {
            badOfSome("best(0, 0, 1, " + v + ")", x -> x.best(0, 0, 1, v));
        }
    }

    private static void numbersOfWords() {
        // 32 and 33 are those at which a shift by so many begins anew.
        for (int v : new int[] {LEAST, -31, -1, 0, 6, 32, 33, MOST}) {
            badOfSome("word(" + v + ", 0)", x -> x.word(v, 0));
            badOfSome("word(" + v + ", 1)", x -> x.word(v, 1));
        }
        for (int n = 1; n <= 5; n++) {
            int sounds = n;
            for (int v : new int[] {LEAST, -1, 1 << sounds, MOST}) {
                badOfSome("word(" + sounds + ", " + v + ")", x -> x.word(sounds, v));
            }
        }
        for (int v : new int[] {LEAST, -1, 2, MOST}) {
            badOfSome("lines(" + v + ")", x -> x.lines(v));
            badOfSome("lineAt(" + v + ", 0, 0)", x -> x.lineAt(v, 0, 0));
            badOfSome("near(" + v + ")", x -> x.near(v));
            badOfSome("nearAt(" + v + ", 0)", x -> x.nearAt(v, 0));
        }
        // The last one's lower half is 0: it must not be cut to an int.
        for (long i : new long[] {Long.MIN_VALUE, -1, -(1L << 32)}) {
            badOfSome("lineAt(0, " + i + ", 0)", x -> x.lineAt(0, i, 0));
        }
        for (int v : new int[] {LEAST, -1}) {
            badOfSome("lineAt(0, 0, " + v + ")", x -> x.lineAt(0, 0, v));
            badOfSome("nearAt(0, " + v + ")", x -> x.nearAt(0, v));
        }
    }

    private static void numbersOfMarksAndKin() {
        for (int v : new int[] {LEAST, -1, 300, MOST}) {
            badOfSome("mark(" + v + ", 0)", x -> x.mark(v, 0));
        }
        for (int v : new int[] {LEAST, -1, 5001, MOST}) {
            badOfSome("mark(0, " + v + ")", x -> x.mark(0, v));
        }
        for (int v : new int[] {LEAST, -1, 2, MOST}) {
            badOfSome("who(" + v + ", 0, 0, 0)", x -> x.who(v, 0, 0, 0));
            badOfSome("two(" + v + ", 0, 0, 0)", x -> x.two(v, 0, 0, 0));
            badOfSome("apart(" + v + ", 0)", x -> x.apart(v, 0));
            badOfSome("apart(0, " + v + ")", x -> x.apart(0, v));
            badOfSome("hangs(" + v + ")", x -> x.hangs(v));
        }
        for (int v : new int[] {LEAST, -1, 1001, MOST}) {
            badOfSome("who(0, " + v + ", 0, 0)", x -> x.who(0, v, 0, 0));
            badOfSome("two(0, " + v + ", 0, 0)", x -> x.two(0, v, 0, 0));
        }
        for (int v : new int[] {LEAST, -1, 51, MOST}) {
            badOfSome("who(0, 0, " + v + ", 0)", x -> x.who(0, 0, v, 0));
            badOfSome("two(0, 0, " + v + ", 0)", x -> x.two(0, 0, v, 0));
        }
        for (int v : new int[] {LEAST, -1, 5, MOST}) {
            badOfSome("two(0, 0, 0, " + v + ")", x -> x.two(0, 0, 0, v));
        }
        for (int v : new int[] {LEAST, -1, 3, 4, MOST}) {
            badOfSome("who(0, 0, 0, " + v + ")", x -> x.who(0, 0, 0, v));
        }
        for (int v : new int[] {LEAST, -1, 9, MOST}) {
            badOfSome("count(" + v + ")", x -> x.count(v));
        }
    }

    private static void whatIsFull() {
        refused("beat 25", Made::full, x -> x.beat(0), FULL);
        refused("song 7", Made::full, HeaveSongs::song, FULL);
        refused("hand 11", Made::full, x -> x.hand(1, 0, 0, 0), FULL);
        refused("task 5", Made::full, x -> x.task(1, 0, 0), FULL);
        refused("word 13", Made::full, x -> x.word(1, 0), FULL);
        refused("mark 61", Made::full, x -> x.mark(0, 0), FULL);
        refused("refrain of 24", Made::full, x -> x.refrain(0), NO);
        for (int v : new int[] {-1, 6}) {
            refused("refrain(" + v + ") of full", Made::full, x -> x.refrain(v), BAD);
            refused("haul(" + v + ") of full", Made::full, x -> x.haul(v, 1, 0, 0), BAD);
        }
        for (int v : new int[] {-1, 10}) {
            refused("late(" + v + ") of full", Made::full, x -> x.late(v, 0), BAD);
            refused("now(" + v + ") of full", Made::full, x -> x.now(v), BAD);
        }
        refused("crew(1024) of full", Made::full, x -> x.crew(1024), BAD);
        refused("planAt(4) of full", Made::full, x -> x.planAt(4), BAD);
        refused("best of 11", Made::full, x -> x.best(0, 0, 11, 0), BAD);
        refused("best for task 4", Made::full, x -> x.best(0, 4, 1, 0), BAD);
    }

    private static void badComesAheadOfFull() {
        refused("beat(-1), full", Made::full, x -> x.beat(-1), BAD);
        refused("beat(4), full", Made::full, x -> x.beat(4), BAD);
        refused("hand(0, ..), full", Made::full, x -> x.hand(0, 0, 0, 0), BAD);
        refused("hand(.., 31), full", Made::full, x -> x.hand(1, 0, 0, 31), BAD);
        refused("task(0, ..), full", Made::full, x -> x.task(0, 0, 0), BAD);
        refused("task(.., 51), full", Made::full, x -> x.task(1, 0, 51), BAD);
        refused("word(6, 0), full", Made::full, x -> x.word(6, 0), BAD);
        refused("word(1, 2), full", Made::full, x -> x.word(1, 2), BAD);
        refused("mark(300, 0), full", Made::full, x -> x.mark(300, 0), BAD);
        refused("mark(0, 5001), full", Made::full, x -> x.mark(0, 5001), BAD);
    }

    private static HeaveSongs rowOf13() {
        HeaveSongs x = new HeaveSongs();
        Check.song(x, "1", "2");
        Check.beats(x, "3333333333333");
        return x;
    }

    private static HeaveSongs taskAlone() {
        HeaveSongs x = new HeaveSongs();
        x.hand(10, 0, 0, 0);
        x.task(1, 0, 0);
        return x;
    }

    private static HeaveSongs songAlone() {
        HeaveSongs x = new HeaveSongs();
        x.hand(10, 0, 0, 0);
        Check.song(x, "2");
        return x;
    }

    private static void badComesAheadOfNo() {
        refused("refrain(0) of 13", RefusalsTest::rowOf13, x -> x.refrain(0), NO);
        refused("refrain(1) of 13, one song", RefusalsTest::rowOf13, x -> x.refrain(1), BAD);
        refused("refrain(-1) of 13", RefusalsTest::rowOf13, x -> x.refrain(-1), BAD);
        refused("planAt(0) without songs", RefusalsTest::taskAlone, x -> x.planAt(0), NO);
        refused("planAt(1) without songs, one task", RefusalsTest::taskAlone, x -> x.planAt(1), BAD);
        refused("planAt(-1) without songs", RefusalsTest::taskAlone, x -> x.planAt(-1), BAD);
        refused("planAt(0) without tasks, a song", RefusalsTest::songAlone, x -> x.planAt(0), BAD);
        refused("plan() without songs", RefusalsTest::taskAlone, HeaveSongs::plan, NO);
        refused("plan() without tasks", RefusalsTest::songAlone, HeaveSongs::plan, NO);
    }

    private static HeaveSongs sixSongsAndNoRow() {
        HeaveSongs x = Made.full();
        x.rest();
        return x;
    }

    private static void noComesAheadOfFull() {
        refused("song() of an empty row, six songs", RefusalsTest::sixSongsAndNoRow, HeaveSongs::song, NO);
    }

    /** A song that nobody hauls by, tasks that all fail, and no words for it. */
    private static HeaveSongs nobody() {
        HeaveSongs x = new HeaveSongs();
        x.hand(50, 0, 0, 0);
        x.crew(0);
        Check.song(x, "2");
        x.task(3000, 1000, 0);
        return x;
    }

    private static void badComesAheadOfNone() {
        refused("planAt, all fail", RefusalsTest::nobody, x -> x.planAt(0), NONE);
        refused("planAt(1), all fail", RefusalsTest::nobody, x -> x.planAt(1), BAD);
        refused("planAt(-1), all fail", RefusalsTest::nobody, x -> x.planAt(-1), BAD);
        refused("best, all fail", RefusalsTest::nobody, x -> x.best(0, 0, 1, 0), NONE);
        refused("best(.., 3), all fail", RefusalsTest::nobody, x -> x.best(0, 0, 1, 3), BAD);
        refused("best(.., 2, ..), all fail", RefusalsTest::nobody, x -> x.best(0, 0, 2, 0), BAD);
        refused("won, no haul", RefusalsTest::nobody, x -> x.won(0), NONE);
        refused("won(-1), no haul", RefusalsTest::nobody, x -> x.won(-1), BAD);
        refused("force, no haul", RefusalsTest::nobody, x -> x.force(0), NONE);
        refused("force(-1), no haul", RefusalsTest::nobody, x -> x.force(-1), BAD);
        refused("lineAt, no line", RefusalsTest::nobody, x -> x.lineAt(0, 0, 0), NONE);
        refused("lineAt(0, -1, 0), no line", RefusalsTest::nobody, x -> x.lineAt(0, -1, 0), BAD);
        refused("lineAt(0, 0, -1), no line", RefusalsTest::nobody, x -> x.lineAt(0, 0, -1), BAD);
        refused("lineAt(0, far, -1), no line", RefusalsTest::nobody, x -> x.lineAt(0, Long.MAX_VALUE, -1), BAD);
        refused("lineAt(0, -1, far), no line", RefusalsTest::nobody, x -> x.lineAt(0, -1, MOST), BAD);
        refused("near, no line", RefusalsTest::nobody, x -> x.near(0), NONE);
        refused("near(1), no line", RefusalsTest::nobody, x -> x.near(1), BAD);
        refused("nearAt, no line", RefusalsTest::nobody, x -> x.nearAt(0, 0), NONE);
        refused("nearAt(0, -1), no line", RefusalsTest::nobody, x -> x.nearAt(0, -1), BAD);
        refused("two of nobody", RefusalsTest::nobody, x -> x.two(0, 0, 0, 0), NONE);
        refused("two(1, ..) of nobody", RefusalsTest::nobody, x -> x.two(1, 0, 0, 0), BAD);
        refused("two(.., 1001, ..) of nobody", RefusalsTest::nobody, x -> x.two(0, 1001, 0, 0), BAD);
        refused("two(.., 51, ..) of nobody", RefusalsTest::nobody, x -> x.two(0, 0, 51, 0), BAD);
        refused("two(.., 5) of nobody", RefusalsTest::nobody, x -> x.two(0, 0, 0, 5), BAD);
        refused("hangs(0)", RefusalsTest::nobody, x -> x.hangs(0), NONE);
        refused("hangs(1), one song", RefusalsTest::nobody, x -> x.hangs(1), BAD);
    }

    private static void noComesAheadOfNone() {
        refused("plan, all fail", RefusalsTest::nobody, HeaveSongs::plan, NONE);
        refused("plan without songs: NO, not NONE", RefusalsTest::taskAlone, HeaveSongs::plan, NO);
        refused("planAt without songs: NO, not NONE", RefusalsTest::taskAlone, x -> x.planAt(0), NO);
    }

    private static long many(HeaveSongs x, ToLongFunction<HeaveSongs> given) {
        for (int i = 0; i < 19; i++) {
            given.applyAsLong(x);
        }
        return given.applyAsLong(x);
    }

    /** What is refused twenty times must not be nearer to being taken, nor leave something behind each time. */
    private static void refusedAgainAndAgain() {
        refused("20 beats, full", Made::full, x -> many(x, y -> y.beat(3)), FULL);
        refused("20 songs, full", Made::full, x -> many(x, HeaveSongs::song), FULL);
        refused("20 refrains of 24", Made::full, x -> many(x, y -> y.refrain(5)), NO);
        refused("20 hands, full", Made::full, x -> many(x, y -> y.hand(100, 30, 30, 30)), FULL);
        refused("20 tasks, full", Made::full, x -> many(x, y -> y.task(3000, 1000, 50)), FULL);
        refused("20 words, full", Made::full, x -> many(x, y -> y.word(5, 31)), FULL);
        refused("20 marks, full", Made::full, x -> many(x, y -> y.mark(299, 5000)), FULL);
        refused("20 songs of nothing", Made::nothing, x -> many(x, HeaveSongs::song), NO);
    }
}

/** The edges that the document names in promises 16 to 20: tasks, the pause, the best plan and the best crew. */
public final class EdgesOfTasksTest {
    private static final int NONE = -1, BAD = -2, NO = -3, FULL = -4;
    private static final Check CHECK = new Check("EdgesOfTasksTest");

    public static void main(String[] args) {
        numbersOfATask();
        tasksAre0To3();
        fifthTaskChangesNothing();
        pauseIs0To50();
        pauseIsBehindEachButTheLast();
        pauseEndsAtStrength();
        pauseIsRestForAll();
        planWantsTasksAndSongs();
        planAtIsOfTheTasksThere();
        planOfHaulsOf300Beats();
        planFailsIfOneFails();
        planFailsByFloorThoughDone();
        planOfLikeOnesIsTheFirstBySongs();
        planMayBeginMoreSlowly();
        planTakesTheSixthSong();
        planOfTenHands();
        planChangesNothing();
        bestIsOf1ToAllHands();
        bestIsForSongsAndTasksThere();
        bestIsAskedFor0To2();
        bestOfTen();
        bestBehind300Beats();
        bestByBeatsFirst();
        bestByLeastNowThen();
        bestByTheLeastNumberThen();
        bestMayLeaveNow0();
        bestFailsByFloor();
        bestChangesNothing();
        CHECK.end();
    }

    /** "GOAL, LOAD, SLIP", as those of a HAUL: 1 .. 3000, 0 .. 1000, 0 .. 50. */
    private static void numbersOfATask() {
        HeaveSongs x = new HeaveSongs();
        int[][] bad = {{0, 0, 0}, {3001, 0, 0}, {1, -1, 0}, {1, 1001, 0}, {1, 0, -1}, {1, 0, 51}};
        for (int[] b : bad) {
            CHECK.due("task(" + b[0] + ", " + b[1] + ", " + b[2] + ")", x.task(b[0], b[1], b[2]), BAD);
        }
        CHECK.due("no task", x.count(4), 0);
        CHECK.due("task(1, 0, 0)", x.task(1, 0, 0), 0);
        CHECK.due("task(3000, 0, 0)", x.task(3000, 0, 0), 1);
        CHECK.due("task(1, 1000, 0)", x.task(1, 1000, 0), 2);
        CHECK.due("task(1, 0, 50)", x.task(1, 0, 50), 3);
        for (int h = 0; h < 10; h++) {
            x.hand(100, 0, 0, 0);
        }
        Check.song(x, "21");
        CHECK.due("GOAL 1", x.best(0, 0, 10, 1), 1);
        CHECK.due("GOAL 3000 by 100 in two beats", x.best(0, 1, 10, 1), 59);
        CHECK.due("LOAD 1000 is not pulled by 1000", x.best(0, 2, 10, 1), NONE);
        CHECK.due("SLIP 50 comes too late", x.best(0, 3, 10, 1), 1);
    }

    /** "TASKS 0 .. 3"; "FULL: 4." */
    private static void tasksAre0To3() {
        HeaveSongs x = new HeaveSongs();
        Check.song(x, "1");
        for (int i = 0; i < 4; i++) {
            CHECK.due("planAt(" + i + "): no such task yet", x.planAt(i), BAD);
            CHECK.due("task " + i, x.task(1, 0, 0), i);
            CHECK.due("tasks", x.count(4), i + 1);
            CHECK.due("planAt(" + i + "): all fail", x.planAt(i), NONE);
        }
        CHECK.due("the fifth", x.task(1, 0, 0), FULL);
        CHECK.due("still four", x.count(4), 4);
        CHECK.due("planAt(4)", x.planAt(4), BAD);
    }

    private static void fifthTaskChangesNothing() {
        HeaveSongs x = Made.tireless(1, 10);
        Check.song(x, "2");
        for (int i = 1; i <= 4; i++) {
            x.task(i, 0, 0);
        }
        CHECK.due("plan", x.plan(), 10);
        long was = x.digest();
        CHECK.due("the fifth", x.task(100, 0, 0), FULL);
        CHECK.due("a bad fifth", x.task(100, 0, 51), BAD);
        CHECK.due("plan", x.plan(), 10);
        CHECK.due("the last is as it was", x.best(0, 3, 1, 1), 4);
        CHECK.due("nothing has changed", x.digest(), was);
    }

    /** "a PAUSE (0 .. 50 BEATS of REST for all; 0 at first)" */
    private static void pauseIs0To50() {
        HeaveSongs x = Made.tireless(1, 10);
        Check.song(x, "2");
        x.task(1, 0, 0);
        x.task(1, 0, 0);
        CHECK.due("0 at first", x.plan(), 2);
        CHECK.due("between(-1)", x.between(-1), BAD);
        CHECK.due("between(51)", x.between(51), BAD);
        CHECK.due("a refused one sets nothing", x.plan(), 2);
        CHECK.due("between(50): what it was", x.between(50), 0);
        CHECK.due("plan", x.plan(), 52);
        CHECK.due("between(51)", x.between(51), BAD);
        CHECK.due("between(-1)", x.between(-1), BAD);
        CHECK.due("a refused one sets nothing", x.plan(), 52);
        CHECK.due("between(1): what it was", x.between(1), 50);
        CHECK.due("plan", x.plan(), 3);
        CHECK.due("between(0): what it was", x.between(0), 1);
        CHECK.due("plan", x.plan(), 2);
    }

    /** "with a PAUSE behind each but the last" */
    private static void pauseIsBehindEachButTheLast() {
        HeaveSongs x = Made.tireless(1, 10);
        Check.song(x, "2");
        x.between(50);
        for (int n = 1; n <= 4; n++) {
            x.task(1, 0, 0);
            CHECK.due("plan of " + n, x.plan(), n + 50 * (n - 1));
        }
    }

    private static void pauseEndsAtStrength() {
        HeaveSongs x = new HeaveSongs();
        x.hand(50, 10, 3, 0);
        Check.song(x, "2");
        x.task(5, 0, 0);
        x.task(9, 0, 0);
        // Behind the first haul 40; 9 more wins 4 + 3 .., from 50 it wins 5 + 4.
        x.between(3);
        CHECK.due("49: 4, 3 and 2 are 9", x.plan(), 1 + 3 + 3);
        x.between(4);
        CHECK.due("50, not 52: 5 and 4 are 9", x.plan(), 1 + 4 + 2);
        HeaveSongs y = new HeaveSongs();
        y.hand(50, 30, 30, 0);
        Check.song(y, "2");
        y.task(5, 0, 0);
        y.task(8, 0, 0);
        y.between(50);
        CHECK.due("50, not 1520: 5 and 2 and no more", y.plan(), NONE);
    }

    private static void pauseIsRestForAll() {
        HeaveSongs x = new HeaveSongs();
        x.hand(50, 30, 30, 0);
        x.hand(100, 0, 0, 0);
        Check.song(x, "2");
        x.haul(0, 15, 0, 0);
        CHECK.due("tired", x.now(0), 20);
        x.floor(20);
        x.task(10, 0, 0);
        x.task(10, 0, 0);
        CHECK.due("below FLOOR by the first pull", x.plan(), NONE);
        x.crew(2);
        CHECK.due("who is not of THE CREW may be anywhere", x.plan(), 2);
    }

    /** "NO: no TASKS, or no SONGS." */
    private static void planWantsTasksAndSongs() {
        HeaveSongs x = Made.tireless(1, 10);
        CHECK.due("neither", x.plan(), NO);
        x.task(1, 0, 0);
        CHECK.due("no songs", x.plan(), NO);
        CHECK.due("no songs", x.planAt(0), NO);
        Check.song(x, "2");
        CHECK.due("both", x.plan(), 1);
        CHECK.due("both", x.planAt(0), 0);
        HeaveSongs y = Made.tireless(1, 10);
        Check.song(y, "2");
        CHECK.due("no tasks", y.plan(), NO);
        CHECK.due("no tasks", y.planAt(0), BAD);
        y.task(1, 0, 0);
        CHECK.due("both", y.plan(), 1);
        HeaveSongs nobody = new HeaveSongs();
        Check.song(nobody, "2");
        nobody.task(1, 0, 0);
        CHECK.due("no hands: all fail", nobody.plan(), NONE);
        CHECK.due("no hands: all fail", nobody.planAt(0), NONE);
    }

    private static void planAtIsOfTheTasksThere() {
        HeaveSongs x = Made.tireless(1, 10);
        Check.song(x, "12");
        Check.song(x, "2");
        for (int n = 1; n <= 4; n++) {
            x.task(1, 0, 0);
            CHECK.due("planAt(-1) of " + n, x.planAt(-1), BAD);
            for (int i = 0; i < n; i++) {
                CHECK.due("planAt(" + i + ") of " + n, x.planAt(i), 1);
            }
            for (int i = n; i <= 4; i++) {
                CHECK.due("planAt(" + i + ") of " + n, x.planAt(i), BAD);
            }
        }
        CHECK.due("planAt least", x.planAt(Integer.MIN_VALUE), BAD);
        CHECK.due("planAt most", x.planAt(Integer.MAX_VALUE), BAD);
    }

    private static void planOfHaulsOf300Beats() {
        HeaveSongs x = Made.tireless(1, 10);
        Check.song(x, "2");
        x.between(50);
        for (int n = 1; n <= 4; n++) {
            x.task(300, 0, 0);
            CHECK.due("plan of " + n, x.plan(), 300 * n + 50 * (n - 1));
        }
        HeaveSongs y = Made.tireless(1, 10);
        Check.song(y, "2");
        y.task(301, 0, 0);
        CHECK.due("301 want one more", y.plan(), NONE);
    }

    /** "none FAILS"; "NONE: all FAIL." */
    private static void planFailsIfOneFails() {
        for (int fails = 0; fails < 4; fails++) {
            HeaveSongs x = Made.tireless(1, 10);
            Check.song(x, "2");
            Check.song(x, "1");
            for (int i = 0; i < 4; i++) {
                x.task(1, i == fails ? 10 : 0, 0);
            }
            CHECK.due("task " + fails + " fails by any song", x.plan(), NONE);
            for (int i = 0; i < 4; i++) {
                CHECK.due("there is no song for " + i, x.planAt(i), NONE);
            }
        }
    }

    private static void planFailsByFloorThoughDone() {
        HeaveSongs x = new HeaveSongs();
        x.hand(100, 30, 0, 0);
        Check.song(x, "2");
        x.task(10, 0, 0);
        x.floor(70);
        CHECK.due("FLOOR 70", x.plan(), 1);
        x.floor(71);
        CHECK.due("FLOOR 71", x.plan(), NONE);
        CHECK.due("FLOOR 71", x.planAt(0), NONE);
    }

    /** "of like ones the first by SONGS" */
    private static void planOfLikeOnesIsTheFirstBySongs() {
        HeaveSongs x = Made.tireless(1, 10);
        for (int s = 0; s < 6; s++) {
            Check.song(x, "2");
        }
        for (int i = 0; i < 4; i++) {
            x.task(1, 0, 0);
        }
        CHECK.due("all are alike", x.plan(), 4);
        for (int i = 0; i < 4; i++) {
            CHECK.due("planAt(" + i + ")", x.planAt(i), 0);
        }
        HeaveSongs y = new HeaveSongs();
        y.hand(80, 20, 10, 20);
        Check.song(y, "22");
        Check.song(y, "23");
        y.task(12, 0, 0);
        y.task(8, 0, 0);
        // 0, 0: 80 and 60, then 40 and 20 are too few. 0, 1: 80, 60; 40, a breath, 40: five beats.
        // 1, 0: 80, a breath, 80; 60, 40: five beats as well. 1, 1: 60, a breath, 60 at last: six.
        CHECK.due("five by 0, 1 and by 1, 0", y.plan(), 5);
        CHECK.due("the first task decides", y.planAt(0), 0);
        CHECK.due("then the second", y.planAt(1), 1);
    }

    private static void planMayBeginMoreSlowly() {
        // Song 0: 100, 70 win 17 in two beats and leave 40; song 1: two beats more, and leaves 100 - 30.
        HeaveSongs x = new HeaveSongs();
        x.hand(100, 30, 0, 30);
        Check.song(x, "22");
        Check.song(x, "233");
        x.task(15, 0, 0);
        x.task(17, 0, 0);
        // 0 first: 2 beats, then from 40: by 0 4, 1, and no more: fails; by 1: 4, 0, 0, 10: 4 + 7 + 10: 7 beats.
        // 1 first: 10, 10: 4 beats, leaves 70; then by 0 7, 4, 1: fails; by 1 7, 10: 4 beats.
        CHECK.due("4 and 4 against 2 and 7", x.plan(), 8);
        CHECK.due("the slower one first", x.planAt(0), 1);
        CHECK.due("and then", x.planAt(1), 1);
    }

    private static void planTakesTheSixthSong() {
        HeaveSongs x = Made.tireless(1, 10);
        for (int s = 0; s < 5; s++) {
            Check.song(x, "1" + Made.times("1", s) + "2");
        }
        Check.song(x, "2");
        for (int i = 0; i < 4; i++) {
            x.task(2, 0, 0);
        }
        CHECK.due("plan", x.plan(), 8);
        for (int i = 0; i < 4; i++) {
            CHECK.due("planAt(" + i + ")", x.planAt(i), 5);
        }
    }

    private static void planOfTenHands() {
        HeaveSongs x = new HeaveSongs();
        for (int h = 0; h < 9; h++) {
            x.hand(1, 0, 0, 0);
        }
        x.hand(91, 30, 15, 0);
        Check.song(x, "2");
        for (int i = 0; i < 4; i++) {
            x.task(10, 0, 0);
        }
        x.between(1);
        // The tenth alone tires: 100 and 70 with 9 of the others; 91 - 30 + 15 = 76 behind the first.
        // 10; then 8 and 5 (76, 46), 31: 4, 1, and 1 of 10: fails by this song.
        CHECK.due("the tenth tires", x.plan(), NONE);
        x.between(2);
        CHECK.due("the tenth rests in each pause", x.plan(), 4 + 3 * 2);
        x.crew(511);
        CHECK.due("nine win nothing", x.plan(), NONE);
    }

    /** "(Nobody tires by it.)" */
    private static void planChangesNothing() {
        Twins.unchanged(CHECK, "plan of some", Made::some, HeaveSongs::plan, Made.some().plan());
        Twins.unchanged(CHECK, "plan of full", Made::full, HeaveSongs::plan, Made.full().plan());
        Twins.unchanged(CHECK, "planAt of full", Made::full, x -> x.planAt(3), Made.full().planAt(3));
    }

    /** "THE BEST CREW of k (1 .. how many HANDS)" */
    private static void bestIsOf1ToAllHands() {
        HeaveSongs x = new HeaveSongs();
        Check.song(x, "2");
        x.task(1, 0, 0);
        for (int n = 0; n <= 10; n++) {
            CHECK.due("best of -1", x.best(0, 0, -1, 0), BAD);
            CHECK.due("best of 0", x.best(0, 0, 0, 0), BAD);
            CHECK.due("best of " + (n + 1) + " of " + n, x.best(0, 0, n + 1, 0), BAD);
            if (n > 0) {
                CHECK.due("best of 1 of " + n, x.best(0, 0, 1, 0), 1);
                CHECK.due("best of all " + n, x.best(0, 0, n, 0), (1 << n) - 1);
            }
            x.hand(10, 0, 0, 0);
        }
    }

    private static void bestIsForSongsAndTasksThere() {
        HeaveSongs x = Made.tireless(1, 10);
        CHECK.due("neither", x.best(0, 0, 1, 0), BAD);
        x.task(1, 0, 0);
        CHECK.due("no song", x.best(0, 0, 1, 0), BAD);
        HeaveSongs y = Made.tireless(1, 10);
        Check.song(y, "2");
        CHECK.due("no task", y.best(0, 0, 1, 0), BAD);
        for (int s = 1; s < 6; s++) {
            Check.song(y, Made.times("1", s) + "2");
        }
        for (int i = 0; i < 4; i++) {
            y.task(i + 1, 0, 0);
        }
        CHECK.due("song 5, task 3", y.best(5, 3, 1, 1), 24);
        CHECK.due("song 0, task 0", y.best(0, 0, 1, 1), 1);
        CHECK.due("song 6", y.best(6, 3, 1, 1), BAD);
        CHECK.due("song -1", y.best(-1, 3, 1, 1), BAD);
        CHECK.due("task 4", y.best(5, 4, 1, 1), BAD);
        CHECK.due("task -1", y.best(5, -1, 1, 1), BAD);
    }

    private static void bestIsAskedFor0To2() {
        HeaveSongs x = new HeaveSongs();
        x.hand(20, 3, 0, 0);
        Check.song(x, "12");
        x.task(2, 0, 0);
        CHECK.due("what -1", x.best(0, 0, 1, -1), BAD);
        CHECK.due("the set", x.best(0, 0, 1, 0), 1);
        CHECK.due("the beats", x.best(0, 0, 1, 1), 2);
        CHECK.due("the least NOW", x.best(0, 0, 1, 2), 17);
        CHECK.due("what 3", x.best(0, 0, 1, 3), BAD);
    }

    private static void bestOfTen() {
        HeaveSongs x = new HeaveSongs();
        for (int h = 0; h < 10; h++) {
            x.hand(10 * h + 10, 0, 0, 0);
        }
        Check.song(x, "2");
        x.task(550, 0, 0);
        // The k strongest win the most in a beat.
        int[] beats = {55, 29, 21, 17, 14, 13, 12, 11, 11, 10};
        for (int k = 1; k <= 10; k++) {
            CHECK.due("its beats, " + k, x.best(0, 0, k, 1), beats[k - 1]);
        }
        CHECK.due("the strongest alone", x.best(0, 0, 1, 0), 512);
        CHECK.due("all", x.best(0, 0, 10, 0), 1023);
        HeaveSongs y = Made.tireless(10, 100);
        Check.song(y, "2");
        y.task(1, 0, 0);
        CHECK.due("the greatest least NOW", y.best(0, 0, 10, 2), 100);
    }

    private static void bestBehind300Beats() {
        HeaveSongs x = Made.tireless(2, 10);
        Check.song(x, "2");
        x.task(300, 0, 0);
        x.task(301, 0, 0);
        CHECK.due("done behind the 300th", x.best(0, 0, 1, 1), 300);
        CHECK.due("not done behind it", x.best(0, 1, 1, 1), NONE);
        CHECK.due("two are done", x.best(0, 1, 2, 1), 151);
    }

    /** "DONE in the fewest BEATS" */
    private static void bestByBeatsFirst() {
        HeaveSongs x = new HeaveSongs();
        x.hand(10, 0, 0, 0);
        x.hand(20, 20, 0, 0);
        Check.song(x, "2");
        x.task(2, 0, 0);
        CHECK.due("sooner, though it leaves less", x.best(0, 0, 1, 0), 2);
        CHECK.due("one beat", x.best(0, 0, 1, 1), 1);
        CHECK.due("and NOW 0", x.best(0, 0, 1, 2), 0);
    }

    /** "of like ones with the greatest least NOW of all HANDS then" */
    private static void bestByLeastNowThen() {
        HeaveSongs x = new HeaveSongs();
        x.hand(50, 20, 0, 0);
        x.hand(50, 10, 0, 0);
        x.hand(50, 11, 0, 0);
        Check.song(x, "2");
        x.task(5, 0, 0);
        CHECK.due("the one who tires least", x.best(0, 0, 1, 0), 2);
        CHECK.due("the least NOW of all", x.best(0, 0, 1, 2), 40);
        // Who is not of the crew rests and counts as well.
        HeaveSongs y = new HeaveSongs();
        y.hand(50, 10, 0, 0);
        y.hand(50, 10, 3, 0);
        Check.song(y, "2");
        y.haul(0, 10, 0, 0);
        y.task(4, 0, 0);
        CHECK.due("0 pulls, 1 rests: 30; 1 pulls: 30 and 40", y.best(0, 0, 1, 0), 1);
        CHECK.due("30", y.best(0, 0, 1, 2), 30);
    }

    /** "then the least as a number" */
    private static void bestByTheLeastNumberThen() {
        HeaveSongs x = Made.tireless(10, 10);
        Check.song(x, "2");
        x.task(1, 0, 0);
        for (int k = 1; k <= 10; k++) {
            CHECK.due("all are alike, " + k, x.best(0, 0, k, 0), (1 << k) - 1);
        }
        HeaveSongs y = new HeaveSongs();
        y.hand(1, 0, 0, 0);
        y.hand(20, 0, 0, 0);
        y.hand(20, 0, 0, 0);
        y.hand(19, 0, 0, 0);
        Check.song(y, "2");
        y.task(2, 0, 0);
        CHECK.due("1 and 2 alone are done at once", y.best(0, 0, 1, 0), 2);
        CHECK.due("of two: 0 and 1", y.best(0, 0, 2, 0), 3);
    }

    private static void bestMayLeaveNow0() {
        HeaveSongs x = new HeaveSongs();
        x.hand(30, 30, 0, 0);
        Check.song(x, "2");
        x.task(3, 0, 0);
        CHECK.due("the set", x.best(0, 0, 1, 0), 1);
        CHECK.due("NOW 0 is an answer, not NONE", x.best(0, 0, 1, 2), 0);
    }

    private static void bestFailsByFloor() {
        HeaveSongs x = new HeaveSongs();
        x.hand(100, 30, 0, 0);
        x.hand(80, 20, 0, 0);
        Check.song(x, "2");
        x.task(8, 0, 0);
        CHECK.due("FLOOR 0: both in one beat, 0 leaves more", x.best(0, 0, 1, 0), 1);
        x.floor(70);
        CHECK.due("FLOOR 70", x.best(0, 0, 1, 0), 1);
        CHECK.due("the other falls below", x.best(0, 0, 2, 0), NONE);
        x.floor(71);
        for (int what = 0; what <= 2; what++) {
            CHECK.due("FLOOR 71: all fail", x.best(0, 0, 1, what), NONE);
        }
    }

    private static void bestChangesNothing() {
        for (int what = 0; what <= 2; what++) {
            int w = what;
            Twins.unchanged(CHECK, "best of some", Made::some, x -> x.best(1, 1, 2, w), Made.some().best(1, 1, 2, w));
            Twins.unchanged(CHECK, "best of full", Made::full, x -> x.best(1, 3, 9, w), Made.full().best(1, 3, 9, w));
        }
    }
}

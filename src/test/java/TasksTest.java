/** Promises 16 to 20. */
public final class TasksTest {
    private static final int NONE = -1, BAD = -2, NO = -3, FULL = -4;
    private static final Check CHECK = new Check("TasksTest");

    public static void main(String[] args) {
        promise16Task();
        promise17Between();
        promises18And19Refusals();
        promises18And19Plan();
        promises18And19FloorTurnsTheFirstChoice();
        promises18And19FollowChanges();
        promises18And19FourTasks();
        promise20Refusals();
        promise20Best();
        promise20FromNowWithLateAndFloor();
        CHECK.end();
    }

    private static void promise16Task() {
        HeaveSongs x = new HeaveSongs();
        int[][] bad = {{0, 0, 0}, {3001, 0, 0}, {1, -1, 0}, {1, 1001, 0}, {1, 0, -1}, {1, 0, 51}};
        for (int[] b : bad) {
            CHECK.due("a bad task", x.task(b[0], b[1], b[2]), BAD);
        }
        CHECK.due("no task", x.count(4), 0);
        CHECK.due("the least task", x.task(1, 0, 0), 0);
        CHECK.due("the greatest task", x.task(3000, 1000, 50), 1);
        CHECK.due("task 2", x.task(1, 0, 0), 2);
        CHECK.due("task 3", x.task(1, 0, 0), 3);
        CHECK.due("task 4", x.task(1, 0, 0), FULL);
        CHECK.due("BAD comes ahead of FULL", x.task(0, 0, 0), BAD);
        CHECK.due("tasks", x.count(4), 4);
    }

    private static void promise17Between() {
        HeaveSongs x = new HeaveSongs();
        CHECK.due("between(50)", x.between(50), 0);
        CHECK.due("between(51)", x.between(51), BAD);
        CHECK.due("between(-1)", x.between(-1), BAD);
        CHECK.due("between(0)", x.between(0), 50);
    }

    private static void promises18And19Refusals() {
        HeaveSongs x = new HeaveSongs();
        CHECK.due("plan of nothing", x.plan(), NO);
        CHECK.due("planAt of nothing", x.planAt(0), BAD);
        Check.song(x, "2");
        CHECK.due("plan without tasks", x.plan(), NO);
        CHECK.due("planAt without tasks", x.planAt(0), BAD);
        HeaveSongs y = new HeaveSongs();
        y.task(1, 0, 0);
        CHECK.due("plan without songs", y.plan(), NO);
        CHECK.due("planAt without songs", y.planAt(0), NO);
        CHECK.due("BAD comes ahead of NO", y.planAt(1), BAD);
        CHECK.due("planAt(-1)", y.planAt(-1), BAD);
        Check.song(y, "2");
        CHECK.due("plan of nobody", y.plan(), NONE);
        CHECK.due("planAt of nobody", y.planAt(0), NONE);
        CHECK.due("planAt(1)", y.planAt(1), BAD);
    }

    private static void promises18And19Plan() {
        HeaveSongs x = new HeaveSongs();
        x.hand(100, 30, 10, 0);
        Check.song(x, "20");
        Check.song(x, "2");
        Check.song(x, "2");
        x.task(10, 0, 0);
        x.task(10, 0, 0);
        // 100: one beat by any song; then 70 and 40 by song 1, but 70, a rest and 50 by song 0.
        CHECK.due("plan", x.plan(), 3);
        CHECK.due("of like ones the first", x.planAt(0), 0);
        CHECK.due("the soonest", x.planAt(1), 1);
        CHECK.due("nobody tires by it", x.now(0), 100);
        CHECK.due("it is no haul", x.count(8), 0);
        x.between(3);
        CHECK.due("a pause counts, and gives strength back", x.plan(), 5);
        CHECK.due("one beat each, so the first", x.planAt(1), 0);
        x.task(1, 0, 0);
        CHECK.due("none behind the last", x.plan(), 9);
        CHECK.due("planAt(2)", x.planAt(2), 0);
        x.haul(1, 17, 0, 0);
        // From 40 by song 0: 4, 2, then 1 for each rest: 11 beats; from 30: 3, then 1 each: 15; then 1.
        CHECK.due("from NOW as it is", x.plan(), 11 + 3 + 15 + 3 + 1);
        x.crew(0);
        CHECK.due("nobody at the rope", x.plan(), NONE);
        CHECK.due("planAt", x.planAt(2), NONE);
    }

    private static void promises18And19FloorTurnsTheFirstChoice() {
        HeaveSongs x = new HeaveSongs();
        x.hand(100, 30, 30, 0);
        Check.song(x, "22");
        Check.song(x, "20");
        x.task(15, 0, 0);
        x.task(10, 0, 0);
        CHECK.due("plan without floor", x.plan(), 5);
        x.floor(40);
        CHECK.due("plan with floor", x.plan(), 6);
        CHECK.due("the slower one", x.planAt(0), 1);
        CHECK.due("the slower one", x.planAt(1), 1);
        x.floor(80);
        CHECK.due("all fail", x.plan(), NONE);
        CHECK.due("all fail", x.planAt(0), NONE);
    }

    /** What was found once must not outlive what it was found from. */
    private static void promises18And19FollowChanges() {
        HeaveSongs x = new HeaveSongs();
        x.hand(100, 0, 0, 0);
        Check.song(x, "1112");
        x.task(10, 0, 0);
        CHECK.due("at first", x.plan(), 4);
        Check.song(x, "12");
        CHECK.due("behind song", x.plan(), 2);
        CHECK.due("behind song", x.planAt(0), 1);
        x.task(15, 0, 0);
        CHECK.due("behind task", x.plan(), 6);
        Check.beats(x, "2");
        x.refrain(1);
        CHECK.due("behind refrain", x.plan(), 5);
        x.between(7);
        CHECK.due("behind between", x.plan(), 12);
        x.late(0, 1);
        CHECK.due("behind late", x.plan(), 14);
        x.hand(100, 30, 5, 0);
        CHECK.due("behind hand", x.plan(), 12);
        x.crew(1);
        CHECK.due("behind crew", x.plan(), 14);
        x.crew(2);
        CHECK.due("behind crew", x.plan(), 12);
        x.haul(1, 17, 0, 0);
        CHECK.due("NOW", x.now(1), 40);
        CHECK.due("behind haul", x.plan(), NONE);
        x.pause(100);
        CHECK.due("behind pause", x.plan(), 12);
        x.floor(71);
        CHECK.due("behind floor", x.plan(), NONE);
    }

    private static void promises18And19FourTasks() {
        HeaveSongs x = new HeaveSongs();
        for (int h = 0; h < 10; h++) {
            x.hand(100, h % 2, 0, 0);
        }
        String[] verses = {"12", "112", "1112", "111112", "0002", "3332"};
        for (String verse : verses) {
            Check.song(x, verse);
        }
        Check.beats(x, "222");
        x.refrain(2);
        // All together pull 1000: against 999 they win nothing.
        x.task(50, 0, 0);
        x.task(150, 0, 0);
        x.task(300, 0, 0);
        x.task(1, 999, 0);
        CHECK.due("planAt ahead of plan", x.planAt(3), NONE);
        CHECK.due("the last one fails", x.plan(), NONE);
        HeaveSongs y = new HeaveSongs();
        y.hand(100, 0, 0, 0);
        Check.song(y, "12");
        Check.song(y, "1112", "222");
        y.between(50);
        y.task(10, 0, 0);
        y.task(40, 0, 0);
        y.task(50, 0, 0);
        y.task(20, 0, 0);
        // By pulls: one behind 2 or 4 beats, four behind 8 or 7, five behind 10 or 11, two behind 4 or 5.
        int[] due = {0, 1, 0, 0};
        for (int i = 0; i < 4; i++) {
            CHECK.due("planAt(" + i + ")", y.planAt(i), due[i]);
        }
        CHECK.due("four tasks and three pauses", y.plan(), 2 + 7 + 10 + 4 + 150);
        y.crew(0);
        CHECK.due("planAt follows, too", y.planAt(0), NONE);
    }

    private static void promise20Refusals() {
        HeaveSongs x = new HeaveSongs();
        CHECK.due("best of nothing", x.best(0, 0, 1, 0), BAD);
        Check.song(x, "2");
        x.task(5, 0, 0);
        CHECK.due("best of nobody", x.best(0, 0, 1, 0), BAD);
        CHECK.due("best of nobody", x.best(0, 0, 0, 0), BAD);
        x.hand(50, 5, 0, 0);
        x.hand(50, 6, 0, 0);
        CHECK.due("best", x.best(0, 0, 2, 1), 1);
        int[][] bad = {{-1, 0, 1, 0}, {1, 0, 1, 0}, {0, -1, 1, 0}, {0, 1, 1, 0},
            {0, 0, 0, 0}, {0, 0, 3, 0}, {0, 0, 1, -1}, {0, 0, 1, 3}};
        for (int[] b : bad) {
            CHECK.due("a bad best", x.best(b[0], b[1], b[2], b[3]), BAD);
        }
    }

    private static void promise20Best() {
        HeaveSongs x = new HeaveSongs();
        x.hand(50, 10, 0, 0);
        x.hand(51, 5, 0, 0);
        x.hand(60, 5, 0, 0);
        x.hand(60, 5, 0, 0);
        x.hand(9, 0, 0, 0);
        Check.song(x, "2");
        x.task(5, 0, 0);
        x.task(10, 0, 0);
        x.task(300, 0, 0);
        // All but the last win 5 in a beat; the last one's 9 is the least of all in any case.
        best(x, 0, 1, 1, 1, 9);
        x.crew(0);
        best(x, 0, 2, 3, 1, 9);
        // 10 in one beat wants two of the four, whoever they are.
        best(x, 1, 2, 3, 1, 9);
        // One alone: 5, then less: 60, 55 win 11 in two beats; 51 and 46 win 9.
        best(x, 1, 1, 4, 2, 9);
        CHECK.due("best of all at once", x.best(0, 1, 5, 0), 31);
        CHECK.due("all fail", x.best(0, 2, 2, 0), NONE);
        CHECK.due("all fail", x.best(0, 2, 2, 1), NONE);
        CHECK.due("all fail", x.best(0, 2, 2, 2), NONE);
        CHECK.due("nobody tires by it", x.now(2), 60);
        CHECK.due("the crew stays", x.count(2), 0);
        HeaveSongs y = new HeaveSongs();
        y.hand(50, 10, 0, 0);
        y.hand(50, 5, 0, 0);
        y.hand(60, 5, 0, 0);
        y.hand(60, 5, 0, 0);
        Check.song(y, "2");
        y.task(5, 0, 0);
        // The least NOW of all hands: 40 by hand 0, 45 by hand 1, 50 by 2 or 3.
        best(y, 0, 1, 4, 1, 50);
        best(y, 0, 2, 12, 1, 50);
        best(y, 0, 3, 14, 1, 45);
    }

    private static void best(HeaveSongs x, int task, int k, int set, int beats, int least) {
        CHECK.due("best crew of " + k, x.best(0, task, k, 0), set);
        CHECK.due("its beats", x.best(0, task, k, 1), beats);
        CHECK.due("its least NOW", x.best(0, task, k, 2), least);
    }

    private static void promise20FromNowWithLateAndFloor() {
        HeaveSongs x = new HeaveSongs();
        x.hand(100, 30, 0, 0);
        x.hand(50, 0, 0, 0);
        Check.song(x, "2");
        x.task(5, 0, 0);
        x.crew(1);
        CHECK.due("of like ones the greatest least NOW", x.best(0, 0, 1, 0), 1);
        x.haul(0, 20, 0, 0);
        CHECK.due("NOW", x.now(0), 10);
        CHECK.due("from NOW as it is", x.best(0, 0, 1, 0), 2);
        x.late(1, 2);
        CHECK.due("LATE as told", x.best(0, 0, 1, 1), 3);
        x.floor(51);
        CHECK.due("FLOOR as told", x.best(0, 0, 1, 0), NONE);
        x.floor(50);
        CHECK.due("who is not of that crew may be below", x.best(0, 0, 1, 2), 10);
    }
}

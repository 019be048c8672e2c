import java.util.Random;

/** Runs of drawn calls (always the same ones) on the class and on the naive one: all answers must be alike. */
public final class AgainstNaiveTest {
    private static final Check CHECK = new Check("AgainstNaiveTest");
    private static final int RUNS = 200;
    // An object is used for at most 512 calls; the dearest round of a run makes fewer than 30.
    private static final int MOST_CALLS = 480;

    private final Random random;
    private final HeaveSongs x = new HeaveSongs();
    private final NaiveSongs y = new NaiveSongs();
    // What a run has much of: some have few pulls, some weak hands, some a single length of words.
    private final int maxVerse;
    private final int maxStrength;
    private final int maxTires;
    private final int maxSounds;
    private final int maxGoal;
    private final int maxLoad;
    private final int maxSongs;
    private final int maxHands;
    private final int maxTasks;
    private final int dear;
    private final String beats;
    private int calls;

    private AgainstNaiveTest(long seed) {
        random = new Random(seed);
        maxVerse = pick(2, 5, 9, 24);
        maxStrength = pick(20, 60, 100);
        maxTires = pick(2, 8, 30);
        maxSounds = pick(1, 2, 3, 5);
        maxGoal = pick(5, 25, 60, 600);
        maxLoad = pick(0, 10, 40, 100, 300);
        maxSongs = pick(2, 3, 6);
        maxHands = pick(2, 4, 7, 10);
        maxTasks = pick(1, 2, 3);
        dear = pick(3, 6, 12);
        beats = new String[] {"0123", "12", "1112", "22203", "12123", "2", "033", "2233"}[random.nextInt(8)];
    }

    public static void main(String[] args) {
        for (int run = 0; run < RUNS; run++) {
            new AgainstNaiveTest(1000 + run).run(run);
        }
        CHECK.end();
    }

    private void run(int run) {
        for (int call = 0; calls <= MOST_CALLS; call++) {
            int kind = random.nextInt(100);
            String where = "run " + run + ", call " + call + ": ";
            if (kind < 40) {
                build(where);
            } else if (kind < 60) {
                work(where);
            } else if (kind < 90) {
                ask(where);
            } else if (random.nextInt(dear) == 0) {
                askDearly(where);
            }
            if (call % 10 == 0) {
                due(where, "digest", x.digest(), y.digest());
            }
        }
    }

    private void due(String where, String call, long got, long want) {
        calls++;
        CHECK.due(where + call, got, want);
    }

    private int pick(int... of) {
        return of[random.nextInt(of.length)];
    }

    /** Mostly within, now and then a little or far beyond. */
    private int number(int least, int most) {
        int how = random.nextInt(60);
        switch (how) {
            case 0: return least - 1;
            case 1: return most + 1;
            case 2: return least;
            case 3: return most;
            case 4: return random.nextInt();
            default: return least + random.nextInt(Math.max(1, most - least + 1));
        }
    }

    private int song() {
        return number(0, y.count(0) - 1);
    }

    private int hand() {
        return number(0, y.count(1) - 1);
    }

    private void build(String where) {
        int a;
        int b;
        switch (random.nextInt(11)) {
            case 0: case 1: case 2:
                int length = 1 + random.nextInt(maxVerse);
                for (int i = 0; i < length; i++) {
                    a = random.nextInt(50) == 0 ? number(0, 3) : beats.charAt(random.nextInt(beats.length())) - '0';
                    due(where, "beat " + a, x.beat(a), y.beat(a));
                }
                break;
            case 3: case 4:
                if (y.count(0) < maxSongs || random.nextInt(20) == 0) {
                    due(where, "song", x.song(), y.song());
                }
                break;
            case 5:
                a = song();
                due(where, "refrain " + a, x.refrain(a), y.refrain(a));
                break;
            case 6: case 7:
                if (y.count(1) < maxHands || random.nextInt(20) == 0) {
                    a = number(1, maxStrength);
                    b = number(0, maxTires);
                    int c = number(0, maxTires);
                    int d = number(0, 30);
                    due(where, "hand", x.hand(a, b, c, d), y.hand(a, b, c, d));
                }
                break;
            case 8:
                if (y.count(4) < maxTasks || random.nextInt(60) == 0) {
                    a = number(1, maxGoal);
                    b = number(0, maxLoad);
                    int slip = number(0, 4);
                    due(where, "task", x.task(a, b, slip), y.task(a, b, slip));
                }
                break;
            case 9:
                a = number(1, maxSounds);
                b = number(0, (1 << (a & 7)) - 1);
                due(where, "word", x.word(a, b), y.word(a, b));
                break;
            default:
                if (random.nextInt(4) == 0) {
                    due(where, "rest", x.rest(), y.rest());
                }
        }
    }

    private void work(String where) {
        int a = song();
        int b = number(1, maxGoal);
        int c = number(0, maxLoad);
        int d = number(0, 6);
        switch (random.nextInt(9)) {
            case 0:
                a = hand();
                b = number(0, 3);
                due(where, "late", x.late(a, b), y.late(a, b));
                break;
            case 1:
                a = number(0, (1 << y.count(1)) - 1);
                due(where, "crew " + a, x.crew(a), y.crew(a));
                break;
            case 2:
                a = random.nextInt(3) == 0 ? number(0, 30) : 0;
                due(where, "floor " + a, x.floor(a), y.floor(a));
                break;
            case 3:
                a = number(0, pick(3, 20, 100));
                due(where, "pause " + a, x.pause(a), y.pause(a));
                break;
            case 4: case 5:
                due(where, "haul", x.haul(a, b, c, d), y.haul(a, b, c, d));
                break;
            case 6:
                a = number(0, 50);
                due(where, "between " + a, x.between(a), y.between(a));
                break;
            default:
                markLikeHaul(where);
        }
    }

    /** Reads the latest haul, here and there wrongly, so that somebody may really have been late. */
    private void markLikeHaul(String where) {
        if (random.nextInt(3) == 0) {
            due(where, "wipe", x.wipe(), y.wipe());
        }
        for (int i = 0; i < 6; i++) {
            int beat = y.count(8) > 0 ? number(0, y.count(8) - 1) : number(0, 299);
            int v = beat >= 0 && y.won(beat) >= 0 ? y.won(beat) : number(0, 200);
            v += random.nextInt(4) == 0 ? number(-2, 2) : 0;
            due(where, "mark", x.mark(beat, v), y.mark(beat, v));
        }
    }

    private void ask(String where) {
        int a = song();
        int b = number(0, 20);
        switch (random.nextInt(12)) {
            case 0:
                b = number(0, pick(50, 1000));
                due(where, "beatAt", x.beatAt(a, b), y.beatAt(a, b));
                break;
            case 1:
                a = hand();
                due(where, "now", x.now(a), y.now(a));
                break;
            case 2:
                a = number(0, 300);
                due(where, "won", x.won(a), y.won(a));
                due(where, "force", x.force(a), y.force(a));
                break;
            case 3:
                due(where, "lines", x.lines(a), y.lines(a));
                break;
            case 4: case 5:
                askLine(where, a);
                break;
            case 6:
                due(where, "near", x.near(a), y.near(a));
                break;
            case 7:
                for (int k = 0; k < 8; k++) {
                    due(where, "nearAt", x.nearAt(a, k), y.nearAt(a, k));
                }
                due(where, "nearAt", x.nearAt(a, b), y.nearAt(a, b));
                break;
            case 8:
                b = song();
                due(where, "apart", x.apart(a, b), y.apart(a, b));
                break;
            case 9:
                due(where, "hangs", x.hangs(a), y.hangs(a));
                break;
            case 10:
                due(where, "tree", x.tree(), y.tree());
                break;
            default:
                a = number(0, 8);
                due(where, "count", x.count(a), y.count(a));
        }
    }

    private void askLine(String where, int song) {
        long lines = Math.max(1, y.lines(song));
        long i = random.nextInt(8) == 0 ? random.nextLong()
                : random.nextInt(8) == 0 ? lines - random.nextInt(2) : Math.floorMod(random.nextLong(), lines);
        for (int k = 0; k < 5; k++) {
            due(where, "lineAt " + i, x.lineAt(song, i, k), y.lineAt(song, i, k));
        }
        int k = number(0, 24);
        due(where, "lineAt " + i, x.lineAt(song, i, k), y.lineAt(song, i, k));
    }

    private void askDearly(String where) {
        if (random.nextInt(3) > 0) {
            due(where, "pause", x.pause(100), y.pause(100));
        }
        int a = song();
        int b = number(0, maxLoad);
        int c = number(0, 6);
        switch (random.nextInt(4)) {
            case 0:
                due(where, "plan", x.plan(), y.plan());
                for (int i = -1; i <= y.count(4); i++) {
                    due(where, "planAt " + i, x.planAt(i), y.planAt(i));
                }
                break;
            case 1:
                b = number(0, y.count(4) - 1);
                c = number(1, y.count(1));
                for (int what = -1; what <= 3; what++) {
                    due(where, "best " + what, x.best(a, b, c, what), y.best(a, b, c, what));
                }
                break;
            case 2:
                for (int what = -1; what <= 3; what++) {
                    due(where, "who " + what, x.who(a, b, c, what), y.who(a, b, c, what));
                }
                break;
            default:
                for (int what = -1; what <= 5; what++) {
                    due(where, "two " + what, x.two(a, b, c, what), y.two(a, b, c, what));
                }
        }
    }
}

/** Promises 13 to 15. */
public final class HaulsTest {
    private static final int NONE = -1, BAD = -2;
    private static final Check CHECK = new Check("HaulsTest");

    public static void main(String[] args) {
        promise13Refusals();
        promise13WonAndSlip();
        promise13LastBeat();
        promise13Floor();
        promise13ComingBack();
        promise13NotOfTheCrew();
        promise13Late();
        promise13Again();
        promises14And15WonAndForce();
        CHECK.end();
    }

    private static void promise13Refusals() {
        HeaveSongs x = new HeaveSongs();
        CHECK.due("haul without songs", x.haul(0, 1, 0, 0), BAD);
        Check.song(x, "2");
        x.hand(50, 5, 0, 0);
        CHECK.due("haul", x.haul(0, 5, 0, 0), 1);
        int[][] bad = {{-1, 1, 0, 0}, {1, 1, 0, 0}, {0, 0, 0, 0}, {0, 3001, 0, 0},
            {0, 1, -1, 0}, {0, 1, 1001, 0}, {0, 1, 0, -1}, {0, 1, 0, 51}};
        for (int[] b : bad) {
            CHECK.due("a bad haul", x.haul(b[0], b[1], b[2], b[3]), BAD);
        }
        CHECK.due("a refused haul tires nobody", x.now(0), 45);
        CHECK.due("the latest haul stays", x.count(8), 1);
        CHECK.due("haul at the upper edges", x.haul(0, 3000, 1000, 50), -310);
        HeaveSongs y = new HeaveSongs();
        Check.song(y, "2");
        CHECK.due("haul of nobody", y.haul(0, 1, 0, 0), -310);
    }

    private static void promise13WonAndSlip() {
        HeaveSongs x = new HeaveSongs();
        x.hand(79, 0, 0, 0);
        Check.song(x, "2111");
        CHECK.due("haul", x.haul(0, 12, 10, 1), 9);
        CHECK.due("69 by 10, cut", x.won(0), 6);
        CHECK.due("slips", x.won(1), 5);
        CHECK.due("slips", x.won(3), 3);
        CHECK.due("wins more", x.won(4), 9);
        CHECK.due("slips below none", x.haul(0, 7, 10, 50), -310);
        CHECK.due("not below 0", x.won(1), 0);
        Check.song(x, "2");
        CHECK.due("force is the load", x.haul(1, 1, 79, 1), -310);
        CHECK.due("it slips", x.won(299), 0);
        x.hand(11, 11, 0, 0);
        CHECK.due("above it first, then like it", x.haul(1, 2, 79, 1), -310);
        CHECK.due("90 against 79", x.won(0), 1);
        CHECK.due("79 against 79 slips", x.won(1), 0);
        HeaveSongs y = new HeaveSongs();
        y.hand(30, 11, 0, 0);
        Check.song(y, "2");
        y.haul(0, 9, 10, 1);
        CHECK.due("20 above", y.won(0), 2);
        CHECK.due("9 above: wins none, nor slips", y.won(1), 2);
        CHECK.due("8 is not above: slips", y.won(2), 1);
    }

    private static void promise13LastBeat() {
        HeaveSongs x = new HeaveSongs();
        x.hand(10, 0, 0, 0);
        Check.song(x, "2");
        CHECK.due("done behind the 300th beat", x.haul(0, 300, 0, 0), 300);
        CHECK.due("its beats", x.count(8), 300);
        CHECK.due("not done behind it", x.haul(0, 301, 0, 0), -310);
        CHECK.due("done behind the first", x.haul(0, 1, 0, 0), 1);
        CHECK.due("its beats", x.count(8), 1);
    }

    private static void promise13Floor() {
        HeaveSongs x = new HeaveSongs();
        x.hand(100, 30, 0, 0);
        x.hand(20, 0, 0, 0);
        Check.song(x, "2");
        x.crew(1);
        x.floor(70);
        CHECK.due("NOW is FLOOR; who is not of the crew may be below", x.haul(0, 10, 0, 0), 1);
        CHECK.due("below FLOOR behind the first", x.haul(0, 100, 0, 0), -11);
        CHECK.due("NOW is as it is behind it", x.now(0), 40);
        HeaveSongs y = new HeaveSongs();
        y.hand(100, 30, 0, 0);
        Check.song(y, "12");
        y.floor(71);
        CHECK.due("fails though it would be done", y.haul(0, 10, 0, 0), -12);
        CHECK.due("it had won enough", y.won(1), 10);
        CHECK.due("below FLOOR ahead of a beat that wins", y.haul(0, 1, 0, 0), -11);
        CHECK.due("an empty crew", y.crew(0), 1);
        CHECK.due("has nobody below FLOOR", y.haul(0, 1, 0, 0), -310);
        y.crew(1);
        y.haul(0, 3000, 0, 0);
        CHECK.due("tired", y.now(0), 70);
        y.floor(0);
        y.haul(0, 3000, 0, 0);
        CHECK.due("none is below a FLOOR of 0", y.count(8), 300);
        CHECK.due("tired out", y.now(0), 0);
        y.floor(1);
        CHECK.due("0 is below 1", y.haul(0, 3000, 0, 0), -11);
        HeaveSongs z = new HeaveSongs();
        z.hand(20, 10, 0, 30);
        Check.song(z, "23");
        z.floor(10);
        CHECK.due("comes back in time", z.haul(0, 4, 0, 0), 3);
    }

    private static void promise13ComingBack() {
        String[] beats = {"0", "1", "3"};
        int[] due = {24, 20, 27};
        for (int i = 0; i < 3; i++) {
            HeaveSongs x = new HeaveSongs();
            x.hand(30, 10, 4, 7);
            Check.song(x, "2" + beats[i] + "2");
            x.haul(0, 3 + due[i] / 10, 0, 0);
            CHECK.due("force behind beat " + beats[i], x.force(2), due[i]);
            CHECK.due("NOW behind that pull", x.now(0), due[i] - 10);
        }
        HeaveSongs x = new HeaveSongs();
        x.hand(30, 10, 30, 30);
        x.hand(5, 9, 0, 0);
        Check.song(x, "203");
        x.haul(0, 3000, 0, 0);
        CHECK.due("never above STRENGTH", x.force(3), 30);
        CHECK.due("NOW not below 0", x.now(1), 0);
    }

    private static void promise13NotOfTheCrew() {
        HeaveSongs x = new HeaveSongs();
        x.hand(100, 30, 3, 11);
        x.hand(100, 0, 0, 0);
        Check.song(x, "2");
        Check.song(x, "1112");
        Check.song(x, "3332");
        Check.song(x, "0002");
        x.haul(0, 60, 0, 0);
        CHECK.due("tired", x.now(0), 0);
        x.crew(2);
        for (int song = 0; song < 4; song++) {
            int was = x.now(0);
            int beats = song == 0 ? 1 : 4;
            CHECK.due("the other one hauls", x.haul(song, 10, 0, 0), beats);
            CHECK.due("RESTS in any beat, song " + song, x.now(0), was + 3 * beats);
        }
        x.haul(0, 3000, 0, 0);
        CHECK.due("never above STRENGTH", x.now(0), 100);
    }

    private static void promise13Late() {
        HeaveSongs x = new HeaveSongs();
        x.hand(40, 10, 4, 7);
        x.hand(50, 0, 0, 0);
        x.late(0, 2);
        Check.song(x, "20");
        x.haul(0, 3000, 0, 0);
        CHECK.due("not yet", x.force(0), 50);
        CHECK.due("its own beat 0", x.force(2), 90);
        CHECK.due("its own beat 1 is a rest", x.force(3), 0);
        HeaveSongs y = new HeaveSongs();
        y.hand(40, 10, 4, 7);
        y.late(0, 1);
        Check.song(y, "2033");
        y.haul(0, 8, 0, 0);
        CHECK.due("pulls in the song's rest", y.force(1), 40);
        CHECK.due("breathes twice, then a pull that is not its own", y.force(4), 0);
        CHECK.due("pulls at STRENGTH", y.force(5), 40);
        HeaveSongs z = new HeaveSongs();
        z.hand(40, 10, 4, 7);
        z.late(0, 3);
        Check.song(z, "2", "1");
        z.haul(0, 4, 0, 0);
        CHECK.due("late by more than a round", z.count(8), 4);
        CHECK.due("pulls in the song's refrain", z.force(3), 40);
    }

    private static void promise13Again() {
        HeaveSongs x = new HeaveSongs();
        x.hand(50, 10, 0, 0);
        Check.song(x, "12");
        CHECK.due("first", x.haul(0, 5, 0, 0), 2);
        CHECK.due("NOW is kept", x.now(0), 40);
        CHECK.due("from beat 0 on, WON 0 at first", x.haul(0, 5, 0, 0), 4);
        CHECK.due("force of the second", x.force(1), 40);
        CHECK.due("NOW is kept", x.now(0), 20);
    }

    private static void promises14And15WonAndForce() {
        HeaveSongs x = new HeaveSongs();
        CHECK.due("won of no haul", x.won(0), NONE);
        CHECK.due("force of no haul", x.force(0), NONE);
        CHECK.due("won(-1)", x.won(-1), BAD);
        CHECK.due("force(-1)", x.force(-1), BAD);
        x.hand(57, 7, 0, 0);
        Check.song(x, "21");
        CHECK.due("haul", x.haul(0, 9, 0, 1), 3);
        int[] won = {5, 4, 9};
        int[] force = {57, 0, 50};
        for (int t = 0; t < 3; t++) {
            CHECK.due("won(" + t + ")", x.won(t), won[t]);
            CHECK.due("force(" + t + ")", x.force(t), force[t]);
        }
        CHECK.due("won(3)", x.won(3), NONE);
        CHECK.due("force(3)", x.force(3), NONE);
        CHECK.due("won far", x.won(Integer.MAX_VALUE), NONE);
        CHECK.due("force far", x.force(Integer.MAX_VALUE), NONE);
        x.floor(50);
        CHECK.due("a failed one", x.haul(0, 9, 0, 1), -11);
        CHECK.due("its won", x.won(0), 4);
        CHECK.due("its force", x.force(0), 43);
        CHECK.due("nothing of the one ahead", x.won(1), NONE);
        CHECK.due("nothing of the one ahead", x.force(1), NONE);
    }
}

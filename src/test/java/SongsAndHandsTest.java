/** Promises 1 to 12. */
public final class SongsAndHandsTest {
    private static final int BAD = -2, NO = -3, FULL = -4;
    private static final Check CHECK = new Check("SongsAndHandsTest");

    public static void main(String[] args) {
        promise1NewObject();
        promise2Beat();
        promise3Rest();
        promise4Song();
        promise5Refrain();
        promise6BeatAt();
        promise7Hand();
        promise8Late();
        promise9Crew();
        promise10Floor();
        promise11Now();
        promise12Pause();
        CHECK.end();
    }

    private static void promise1NewObject() {
        HeaveSongs x = new HeaveSongs();
        for (int what = 0; what <= 8; what++) {
            CHECK.due("new: count(" + what + ")", x.count(what), 0);
        }
        CHECK.due("new: won(0)", x.won(0), -1);
        CHECK.due("new: force(0)", x.force(0), -1);
        CHECK.due("new: tree()", x.tree(), 0);
        CHECK.due("new: wipe()", x.wipe(), 0);
        CHECK.due("new: floor(0)", x.floor(0), 0);
        CHECK.due("new: between(0)", x.between(0), 0);
        CHECK.due("new: digest()", x.digest(), 7482413071469893L);
        HeaveSongs y = new HeaveSongs();
        x.beat(1);
        x.hand(1, 0, 0, 0);
        CHECK.due("another object's row", y.count(7), 0);
        CHECK.due("another object's hands", y.count(1), 0);
    }

    private static void promise2Beat() {
        HeaveSongs x = new HeaveSongs();
        CHECK.due("beat(-1)", x.beat(-1), BAD);
        CHECK.due("beat(4)", x.beat(4), BAD);
        CHECK.due("refused beats", x.count(7), 0);
        for (int i = 0; i < 24; i++) {
            CHECK.due("beat " + i, x.beat(i % 4), i + 1);
        }
        CHECK.due("beat 25", x.beat(0), FULL);
        CHECK.due("BAD comes ahead of FULL", x.beat(4), BAD);
        CHECK.due("a full row", x.count(7), 24);
        x.song();
        for (int i = 0; i < 24; i++) {
            CHECK.due("what was beaten, " + i, x.beatAt(0, i), i % 4);
        }
    }

    private static void promise3Rest() {
        HeaveSongs x = new HeaveSongs();
        CHECK.due("rest() of an empty row", x.rest(), 0);
        Check.beats(x, "123");
        CHECK.due("rest()", x.rest(), 3);
        CHECK.due("row behind rest", x.count(7), 0);
        CHECK.due("rest() again", x.rest(), 0);
        CHECK.due("beat behind rest", x.beat(2), 1);
        x.song();
        CHECK.due("the song has no old beat", x.beatAt(0, 0), 2);
        CHECK.due("the song is one long", x.beatAt(0, 1), 2);
    }

    private static void promise4Song() {
        HeaveSongs x = new HeaveSongs();
        CHECK.due("song() of nothing", x.song(), NO);
        CHECK.due("no song", x.count(0), 0);
        for (int i = 0; i < 6; i++) {
            Check.beats(x, "1" + i % 4);
            CHECK.due("song " + i, x.song(), i);
            CHECK.due("row behind song", x.count(7), 0);
        }
        CHECK.due("NO comes ahead of FULL", x.song(), NO);
        Check.beats(x, "33");
        CHECK.due("song 7", x.song(), FULL);
        CHECK.due("row behind a refused song", x.count(7), 2);
        CHECK.due("songs", x.count(0), 6);
        CHECK.due("verse of song 3", x.beatAt(3, 1), 3);
        CHECK.due("its refrain is empty", x.beatAt(3, 2), 1);
    }

    private static void promise5Refrain() {
        HeaveSongs x = new HeaveSongs();
        Check.beats(x, "1");
        CHECK.due("refrain without songs", x.refrain(0), BAD);
        CHECK.due("the row stays", x.count(7), 1);
        x.song();
        CHECK.due("refrain(-1)", x.refrain(-1), BAD);
        CHECK.due("refrain(1)", x.refrain(1), BAD);
        Check.beats(x, "222222222222");
        CHECK.due("refrain of 12", x.refrain(0), 12);
        CHECK.due("row behind refrain", x.count(7), 0);
        CHECK.due("last of the refrain", x.beatAt(0, 12), 2);
        CHECK.due("verse again", x.beatAt(0, 13), 1);
        Check.beats(x, "3333333333333");
        CHECK.due("refrain of 13", x.refrain(0), NO);
        CHECK.due("BAD comes ahead of NO", x.refrain(5), BAD);
        CHECK.due("the row stays", x.count(7), 13);
        CHECK.due("the refrain stays", x.beatAt(0, 1), 2);
        x.rest();
        Check.beats(x, "03");
        CHECK.due("a shorter refrain", x.refrain(0), 2);
        CHECK.due("its end", x.beatAt(0, 2), 3);
        CHECK.due("the verse behind it", x.beatAt(0, 3), 1);
        CHECK.due("an empty refrain", x.refrain(0), 0);
        CHECK.due("verse alone", x.beatAt(0, 1), 1);
    }

    private static void promise6BeatAt() {
        HeaveSongs x = new HeaveSongs();
        CHECK.due("beatAt without songs", x.beatAt(0, 0), BAD);
        Check.song(x, "120", "31");
        String round = "12031";
        // Not each of the 1001: an object has 512 calls.
        for (int t = 0; t <= 1000; t += t < 40 || t >= 990 ? 1 : 19) {
            CHECK.due("beatAt(0, " + t + ")", x.beatAt(0, t), round.charAt(t % 5) - '0');
        }
        CHECK.due("beatAt(0, -1)", x.beatAt(0, -1), BAD);
        CHECK.due("beatAt(0, 1001)", x.beatAt(0, 1001), BAD);
        CHECK.due("beatAt(1, 0)", x.beatAt(1, 0), BAD);
        CHECK.due("beatAt(-1, 0)", x.beatAt(-1, 0), BAD);
        CHECK.due("beatAt far", x.beatAt(0, Integer.MIN_VALUE), BAD);
    }

    private static void promise7Hand() {
        HeaveSongs x = new HeaveSongs();
        int[][] bad = {{0, 0, 0, 0}, {101, 0, 0, 0}, {1, -1, 0, 0}, {1, 31, 0, 0},
            {1, 0, -1, 0}, {1, 0, 31, 0}, {1, 0, 0, -1}, {1, 0, 0, 31}};
        for (int[] b : bad) {
            CHECK.due("a bad hand", x.hand(b[0], b[1], b[2], b[3]), BAD);
        }
        CHECK.due("no hand", x.count(1), 0);
        CHECK.due("the least hand", x.hand(1, 0, 0, 0), 0);
        CHECK.due("the greatest hand", x.hand(100, 30, 30, 30), 1);
        CHECK.due("NOW is STRENGTH", x.now(1), 100);
        CHECK.due("LATE is 0", x.late(1, 0), 0);
        CHECK.due("both are at the rope", x.count(2), 3);
        x.crew(0);
        CHECK.due("hand 2", x.hand(5, 0, 0, 0), 2);
        CHECK.due("it comes to the rope alone", x.count(2), 4);
        for (int h = 3; h < 10; h++) {
            CHECK.due("hand " + h, x.hand(5, 0, 0, 0), h);
        }
        CHECK.due("hand 11", x.hand(5, 0, 0, 0), FULL);
        CHECK.due("BAD comes ahead of FULL", x.hand(5, 31, 0, 0), BAD);
        CHECK.due("hands", x.count(1), 10);
        CHECK.due("crew", x.count(2), 1020);
    }

    private static void promise8Late() {
        HeaveSongs x = new HeaveSongs();
        CHECK.due("late without hands", x.late(0, 0), BAD);
        x.hand(10, 0, 0, 0);
        CHECK.due("late(0, 3)", x.late(0, 3), 0);
        CHECK.due("late(0, 4)", x.late(0, 4), BAD);
        CHECK.due("late(0, -1)", x.late(0, -1), BAD);
        CHECK.due("late(1, 0)", x.late(1, 0), BAD);
        CHECK.due("late(-1, 0)", x.late(-1, 0), BAD);
        CHECK.due("late(0, 1)", x.late(0, 1), 3);
        CHECK.due("late(0, 0)", x.late(0, 0), 1);
    }

    private static void promise9Crew() {
        HeaveSongs x = new HeaveSongs();
        CHECK.due("crew(0) of nobody", x.crew(0), 0);
        CHECK.due("crew(1) of nobody", x.crew(1), BAD);
        for (int h = 0; h < 10; h++) {
            x.hand(10, 0, 0, 0);
        }
        CHECK.due("all come to the rope", x.crew(5), 1023);
        CHECK.due("crew(1024)", x.crew(1024), BAD);
        CHECK.due("crew(-1)", x.crew(-1), BAD);
        CHECK.due("crew(1023)", x.crew(1023), 5);
        CHECK.due("crew(0)", x.crew(0), 1023);
        CHECK.due("an empty crew", x.count(2), 0);
    }

    private static void promise10Floor() {
        HeaveSongs x = new HeaveSongs();
        CHECK.due("floor(100)", x.floor(100), 0);
        CHECK.due("floor(101)", x.floor(101), BAD);
        CHECK.due("floor(-1)", x.floor(-1), BAD);
        CHECK.due("count(3)", x.count(3), 100);
        CHECK.due("floor(0)", x.floor(0), 100);
    }

    private static void promise11Now() {
        HeaveSongs x = new HeaveSongs();
        CHECK.due("now without hands", x.now(0), BAD);
        x.hand(40, 7, 0, 0);
        Check.song(x, "2");
        CHECK.due("now at first", x.now(0), 40);
        x.haul(0, 4, 0, 0);
        CHECK.due("now behind a pull", x.now(0), 33);
        CHECK.due("now(-1)", x.now(-1), BAD);
        CHECK.due("now(1)", x.now(1), BAD);
    }

    private static void promise12Pause() {
        HeaveSongs x = new HeaveSongs();
        CHECK.due("pause of nobody", x.pause(100), 0);
        x.hand(50, 30, 3, 9);
        x.hand(50, 30, 0, 9);
        x.hand(50, 0, 3, 9);
        x.hand(50, 25, 5, 0);
        Check.song(x, "2");
        x.haul(0, 20, 0, 0);
        CHECK.due("tired", x.now(0), 20);
        CHECK.due("pause(-1)", x.pause(-1), BAD);
        CHECK.due("pause(101)", x.pause(101), BAD);
        CHECK.due("pause(0)", x.pause(0), 1);
        x.crew(0);
        CHECK.due("pause(5)", x.pause(5), 2);
        CHECK.due("RESTS for each beat", x.now(0), 35);
        CHECK.due("no RESTS", x.now(1), 20);
        CHECK.due("just at STRENGTH", x.now(3), 50);
        CHECK.due("pause(6)", x.pause(6), 3);
        CHECK.due("never above STRENGTH", x.now(0), 50);
        CHECK.due("pause(100)", x.pause(100), 3);
    }
}

/** Promises 26 to 29. */
public final class MarksTest {
    private static final int NONE = -1, BAD = -2, FULL = -4;
    private static final Check CHECK = new Check("MarksTest");

    public static void main(String[] args) {
        promise26Mark();
        promise27Wipe();
        promise28Refusals();
        promise28Who();
        promise28TenHands();
        promise28LikeOnes();
        promise28NothingElseCounts();
        promise29Refusals();
        promise29Two();
        promise29LikeOnes();
        CHECK.end();
    }

    private static void promise26Mark() {
        HeaveSongs x = new HeaveSongs();
        int[][] bad = {{-1, 0}, {300, 0}, {0, -1}, {0, 5001}};
        for (int[] b : bad) {
            CHECK.due("a bad mark", x.mark(b[0], b[1]), BAD);
        }
        CHECK.due("no mark", x.count(6), 0);
        CHECK.due("the least mark", x.mark(0, 0), 1);
        CHECK.due("the greatest mark", x.mark(299, 5000), 2);
        for (int m = 2; m < 60; m++) {
            CHECK.due("mark " + m, x.mark(7, 7), m + 1);
        }
        CHECK.due("mark 61", x.mark(7, 7), FULL);
        CHECK.due("BAD comes ahead of FULL", x.mark(300, 7), BAD);
        CHECK.due("marks", x.count(6), 60);
    }

    private static void promise27Wipe() {
        HeaveSongs x = new HeaveSongs();
        CHECK.due("wipe of none", x.wipe(), 0);
        x.mark(1, 1);
        x.mark(2, 2);
        CHECK.due("wipe", x.wipe(), 2);
        CHECK.due("marks behind wipe", x.count(6), 0);
        CHECK.due("a mark behind wipe", x.mark(3, 3), 1);
    }

    private static void promise28Refusals() {
        HeaveSongs x = new HeaveSongs();
        CHECK.due("who without songs", x.who(0, 0, 0, 0), BAD);
        Check.song(x, "2");
        int[][] bad = {{-1, 0, 0, 0}, {1, 0, 0, 0}, {0, -1, 0, 0}, {0, 1001, 0, 0},
            {0, 0, -1, 0}, {0, 0, 51, 0}, {0, 0, 0, -1}, {0, 0, 0, 3}};
        for (int[] b : bad) {
            CHECK.due("a bad who", x.who(b[0], b[1], b[2], b[3]), BAD);
        }
        x.mark(299, 17);
        CHECK.due("nobody was late", x.who(0, 1000, 50, 0), NONE);
        CHECK.due("by no beats", x.who(0, 1000, 50, 1), 0);
        CHECK.due("all of it is off", x.who(0, 1000, 50, 2), 17);
    }

    /** Three hands of different strength that do not tire, by a song of one pull in four. */
    private static HeaveSongs three() {
        HeaveSongs x = new HeaveSongs();
        x.hand(10, 0, 0, 0);
        x.hand(20, 0, 0, 0);
        x.hand(40, 0, 0, 0);
        Check.song(x, "2111");
        return x;
    }

    private static void promise28Who() {
        HeaveSongs x = three();
        // None late: 7 behind beat 0, 14 behind beat 4.
        marks(x, 0, 7, 3, 7, 4, 14);
        who(x, 0, 0, NONE, 0, 0);
        x.wipe();
        // Hand 1 by 2: 5 behind 0 and 1, 7 behind 2, 12 behind 4, 14 behind 6.
        marks(x, 0, 5, 1, 5, 2, 7, 4, 12, 6, 14);
        who(x, 0, 0, 1, 2, 0);
        x.wipe();
        // The same, misread by 1 and 2.
        marks(x, 0, 6, 1, 5, 2, 5, 4, 12, 6, 14);
        who(x, 0, 0, 1, 2, 3);
        x.crew(5);
        // Now 5 in all: none late 5, 5, 5, 10, 10: off by 1, 0, 0, 2, 4.
        who(x, 0, 0, NONE, 0, 7);
        x.crew(7);
        // A load of 10 and a slip of 1: 6, 5, 4, 3, 9 if none is late; behind beat 299 much is won.
        x.wipe();
        marks(x, 0, 6, 1, 5, 3, 3, 4, 9);
        who(x, 10, 1, NONE, 0, 0);
        x.wipe();
        // Hand 2 by 1: 20 less, then 30: 2, 5, 4, 3, 5, 8.
        marks(x, 0, 2, 1, 5, 5, 8);
        who(x, 10, 1, 2, 1, 0);
    }

    private static void promise28TenHands() {
        HeaveSongs x = new HeaveSongs();
        for (int h = 0; h < 10; h++) {
            x.hand(10 * h + 10, 0, 0, 0);
        }
        Check.song(x, "21111");
        // All win 55; hand 9 (100) by 3: 45 behind beats 0 to 2, 55 behind 3, 100 behind 5, 110 behind 8.
        marks(x, 2, 45, 3, 55, 5, 100, 7, 100, 8, 110);
        who(x, 0, 0, 9, 3, 0);
        x.wipe();
        // Hands 8 (90) and 9 by 3: 36, then 55, then 91.
        marks(x, 0, 36, 2, 36, 3, 55, 5, 91);
        two(x, 8, 9, 3, 3, 0);
    }

    private static void promise28LikeOnes() {
        HeaveSongs x = new HeaveSongs();
        x.hand(10, 0, 0, 0);
        x.hand(10, 0, 0, 0);
        Check.song(x, "2111");
        who(x, 0, 0, NONE, 0, 0);
        // One of them was late, by 1, 2 or 3.
        marks(x, 0, 1);
        who(x, 0, 0, 0, 1, 0);
        // By 2 or 3.
        marks(x, 1, 1);
        who(x, 0, 0, 0, 2, 0);
        x.crew(2);
        // Alone: 1 or 0, 0 .. : none late is as good as any.
        who(x, 0, 0, NONE, 0, 0);
    }

    private static void promise28NothingElseCounts() {
        HeaveSongs x = three();
        x.late(0, 3);
        x.late(2, 1);
        x.floor(100);
        marks(x, 0, 5, 1, 5, 2, 7, 4, 12, 6, 14);
        who(x, 0, 0, 1, 2, 0);
        CHECK.due("LATE stays as told", x.late(2, 1), 1);
        CHECK.due("it is no haul", x.count(8), 0);
        HeaveSongs y = new HeaveSongs();
        y.hand(100, 30, 0, 0);
        Check.song(y, "2");
        y.haul(0, 3000, 0, 0);
        // From STRENGTH: 10, 17, 21, 22; late by 1 a beat behind that.
        marks(y, 0, 0, 1, 10, 2, 17, 3, 21, 4, 22, 299, 22);
        who(y, 0, 0, 0, 1, 0);
        CHECK.due("nobody tires by it, nor rests", y.now(0), 0);
        CHECK.due("the latest haul stays", y.count(8), 300);
        HeaveSongs z = new HeaveSongs();
        for (int h = 0; h < 10; h++) {
            z.hand(100, 0, 0, 0);
        }
        Check.song(z, "2");
        // No GOAL: more than 3000 is won by beat 40.
        marks(z, 40, 4100, 49, 5000);
        who(z, 0, 0, NONE, 0, 0);
    }

    private static void promise29Refusals() {
        HeaveSongs x = new HeaveSongs();
        CHECK.due("two without songs", x.two(0, 0, 0, 0), BAD);
        Check.song(x, "2");
        int[][] bad = {{-1, 0, 0, 0}, {1, 0, 0, 0}, {0, -1, 0, 0}, {0, 1001, 0, 0},
            {0, 0, -1, 0}, {0, 0, 51, 0}, {0, 0, 0, -1}, {0, 0, 0, 5}};
        for (int[] b : bad) {
            CHECK.due("a bad two", x.two(b[0], b[1], b[2], b[3]), BAD);
        }
        x.hand(10, 0, 0, 0);
        x.hand(10, 0, 0, 0);
        x.crew(2);
        for (int what = 0; what <= 4; what++) {
            CHECK.due("one in the crew", x.two(0, 0, 0, what), NONE);
        }
        CHECK.due("BAD comes first", x.two(0, 0, 0, 5), BAD);
    }

    private static void promise29Two() {
        HeaveSongs x = three();
        x.late(1, 3);
        x.floor(90);
        // Hand 0 by 3, hand 2 by 1: 2 behind 0, 6 behind 1 and 2, 7 behind 3.
        marks(x, 0, 2, 1, 6, 2, 6, 3, 7, 4, 9);
        two(x, 0, 2, 3, 1, 0);
        x.wipe();
        // Hand 1 by 1, hand 2 by 2, misread once by 2.
        marks(x, 0, 1, 1, 3, 2, 7, 3, 9, 4, 8);
        two(x, 1, 2, 1, 2, 2);
        x.crew(5);
        // Of 0 and 2 alone: by 2 and 1: 0, 4, 5, 5, 5: off by 1, 1, 2, 4, 3;
        // by 1 and 1: 0, 5, 5, 5, 5: off by one more.
        two(x, 0, 2, 2, 1, 11);
        CHECK.due("LATE stays as told", x.late(1, 3), 3);
        CHECK.due("nobody tires by it", x.now(2), 40);
    }

    private static void promise29LikeOnes() {
        HeaveSongs x = new HeaveSongs();
        for (int h = 0; h < 4; h++) {
            x.hand(10, 0, 0, 0);
        }
        Check.song(x, "2111");
        two(x, 0, 1, 1, 1, 0);
        x.crew(14);
        two(x, 1, 2, 1, 1, 0);
        // Of three one, then two, then three: by 1 and 2, or by 2 and 1.
        marks(x, 0, 1, 1, 2, 2, 3);
        two(x, 1, 2, 1, 2, 0);
        // Of like ones the fewest beats of a: 1 and 3 against 3 and 1.
        x.wipe();
        marks(x, 0, 1, 1, 2, 2, 2, 3, 3);
        two(x, 1, 2, 1, 3, 0);
    }

    private static void marks(HeaveSongs x, int... beatsAndReads) {
        for (int i = 0; i < beatsAndReads.length; i += 2) {
            x.mark(beatsAndReads[i], beatsAndReads[i + 1]);
        }
    }

    private static void who(HeaveSongs x, int load, int slip, int hand, int beats, int sum) {
        CHECK.due("who", x.who(0, load, slip, 0), hand);
        CHECK.due("by how many beats", x.who(0, load, slip, 1), beats);
        CHECK.due("the sum of who", x.who(0, load, slip, 2), sum);
    }

    private static void two(HeaveSongs x, int a, int b, int beatsOfA, int beatsOfB, int sum) {
        CHECK.due("two, a", x.two(0, 0, 0, 0), a);
        CHECK.due("two, b", x.two(0, 0, 0, 1), b);
        CHECK.due("two, beats of a", x.two(0, 0, 0, 2), beatsOfA);
        CHECK.due("two, beats of b", x.two(0, 0, 0, 3), beatsOfB);
        CHECK.due("two, the sum", x.two(0, 0, 0, 4), sum);
    }
}

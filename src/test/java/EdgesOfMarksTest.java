/** The edges that the document names in promises 26 to 29: marks, and who was late. */
public final class EdgesOfMarksTest {
    private static final int NONE = -1, BAD = -2, FULL = -4;
    private static final Check CHECK = new Check("EdgesOfMarksTest");

    public static void main(String[] args) {
        beatIs0To299();
        readIs0To5000();
        marksAre60AtMost();
        sixtyFirstMarkChangesNothing();
        wipeOfNoneSomeAndAll();
        likeMarksAreTwo();
        whoIsOfSongsThere();
        loadAndSlipAtTheirEdges();
        whoIsAskedFor0To2();
        whoWithoutMarks();
        whoWithoutCrew();
        marksAtBothEndsCount();
        theGreatestSums();
        lateBy1To3AndNoMore();
        noneComesAheadOfOne();
        theLeastHandThenTheFewestBeats();
        whoIsNotOfTheCrewIsNotLate();
        handsBeginAtStrength();
        noFloorNoGoal();
        lateAsToldDoesNotCount();
        twoIsOfSongsThere();
        twoIsAskedFor0To4();
        twoWantsTwoInTheCrew();
        twoWithoutMarks();
        twoOfTheLastHands();
        twoBy1To3AndNoMore();
        twoAreLateEvenIfNoneWas();
        twoOfLikeOnes();
        askingChangesNothing();
        CHECK.end();
    }

    private static void mark(HeaveSongs x, int... beatsAndReads) {
        for (int i = 0; i < beatsAndReads.length; i += 2) {
            x.mark(beatsAndReads[i], beatsAndReads[i + 1]);
        }
    }

    private static void who(String what, HeaveSongs x, int hand, int beats, int sum) {
        CHECK.due(what + ": the hand", x.who(0, 0, 0, 0), hand);
        CHECK.due(what + ": by how many", x.who(0, 0, 0, 1), beats);
        CHECK.due(what + ": the sum", x.who(0, 0, 0, 2), sum);
    }

    private static void two(String what, HeaveSongs x, int... due) {
        for (int i = 0; i < 5; i++) {
            CHECK.due(what + ": two " + i, x.two(0, 0, 0, i), due[i]);
        }
    }

    /** "behind a BEAT (0 .. 299)" */
    private static void beatIs0To299() {
        HeaveSongs x = new HeaveSongs();
        CHECK.due("mark(-1, 0)", x.mark(-1, 0), BAD);
        CHECK.due("mark(300, 0)", x.mark(300, 0), BAD);
        CHECK.due("no mark", x.count(6), 0);
        CHECK.due("mark(0, 0)", x.mark(0, 0), 1);
        CHECK.due("mark(299, 0)", x.mark(299, 0), 2);
        CHECK.due("mark least", x.mark(Integer.MIN_VALUE, 0), BAD);
        CHECK.due("mark most", x.mark(Integer.MAX_VALUE, 0), BAD);
        CHECK.due("marks", x.count(6), 2);
    }

    /** "WON was read as v (0 .. 5000)" */
    private static void readIs0To5000() {
        HeaveSongs x = new HeaveSongs();
        CHECK.due("mark(0, -1)", x.mark(0, -1), BAD);
        CHECK.due("mark(0, 5001)", x.mark(0, 5001), BAD);
        CHECK.due("no mark", x.count(6), 0);
        CHECK.due("mark(0, 0)", x.mark(0, 0), 1);
        CHECK.due("mark(0, 5000)", x.mark(0, 5000), 2);
        CHECK.due("mark(0, least)", x.mark(0, Integer.MIN_VALUE), BAD);
        CHECK.due("mark(0, most)", x.mark(0, Integer.MAX_VALUE), BAD);
        CHECK.due("marks", x.count(6), 2);
    }

    /** "MARKS, 60 at most"; "FULL: 60." */
    private static void marksAre60AtMost() {
        HeaveSongs x = new HeaveSongs();
        for (int m = 1; m <= 60; m++) {
            CHECK.due("mark " + m, x.mark(m, m), m);
        }
        CHECK.due("the 61st", x.mark(0, 0), FULL);
        CHECK.due("a bad 61st", x.mark(300, 0), BAD);
        CHECK.due("a bad 61st", x.mark(0, 5001), BAD);
        CHECK.due("still 60", x.count(6), 60);
        CHECK.due("wipe", x.wipe(), 60);
        for (int m = 1; m <= 60; m++) {
            CHECK.due("mark " + m + " again", x.mark(m, m), m);
        }
        CHECK.due("the 61st again", x.mark(0, 0), FULL);
    }

    private static void sixtyFirstMarkChangesNothing() {
        HeaveSongs x = new HeaveSongs();
        Check.song(x, "1");
        for (int m = 0; m < 60; m++) {
            x.mark(m, 1);
        }
        long was = x.digest();
        CHECK.due("the 61st", x.mark(0, 5000), FULL);
        CHECK.due("nothing has changed", x.digest(), was);
        CHECK.due("it is not held against", x.who(0, 0, 0, 2), 60);
    }

    /** "All MARKS go: how many." */
    private static void wipeOfNoneSomeAndAll() {
        for (int n : new int[] {0, 1, 59, 60}) {
            HeaveSongs x = new HeaveSongs();
            Check.song(x, "1");
            for (int m = 0; m < n; m++) {
                x.mark(m, 7);
            }
            CHECK.due("all count", x.who(0, 0, 0, 2), 7 * n);
            CHECK.due("wipe() of " + n, x.wipe(), n);
            CHECK.due("none is left", x.count(6), 0);
            CHECK.due("none counts", x.who(0, 0, 0, 2), 0);
            CHECK.due("wipe() again", x.wipe(), 0);
            CHECK.due("a mark behind it", x.mark(0, 5), 1);
            CHECK.due("it alone counts", x.who(0, 0, 0, 2), 5);
        }
    }

    private static void likeMarksAreTwo() {
        HeaveSongs x = new HeaveSongs();
        Check.song(x, "1");
        mark(x, 3, 4, 3, 4, 3, 6);
        CHECK.due("three marks", x.count(6), 3);
        CHECK.due("each counts", x.who(0, 0, 0, 2), 14);
    }

    private static void whoIsOfSongsThere() {
        HeaveSongs x = new HeaveSongs();
        for (int s = 0; s < 6; s++) {
            CHECK.due("who(" + s + ", ..): not there yet", x.who(s, 0, 0, 0), BAD);
            Check.song(x, "1");
            CHECK.due("who(" + s + ", ..)", x.who(s, 0, 0, 0), NONE);
        }
        CHECK.due("who(6, ..)", x.who(6, 0, 0, 0), BAD);
        CHECK.due("who(-1, ..)", x.who(-1, 0, 0, 0), BAD);
    }

    private static void loadAndSlipAtTheirEdges() {
        HeaveSongs x = Made.tireless(10, 100);
        Check.song(x, "21");
        mark(x, 0, 0, 1, 0);
        int[][] bad = {{-1, 0}, {1001, 0}, {0, -1}, {0, 51}};
        for (int[] b : bad) {
            CHECK.due("who: LOAD, SLIP", x.who(0, b[0], b[1], 2), BAD);
            CHECK.due("two: LOAD, SLIP", x.two(0, b[0], b[1], 4), BAD);
        }
        CHECK.due("who: LOAD 0, SLIP 0: 90 and 90, late by 2", x.who(0, 0, 0, 2), 180);
        CHECK.due("who: LOAD 1000", x.who(0, 1000, 0, 2), 0);
        CHECK.due("who: LOAD 1000, SLIP 50", x.who(0, 1000, 50, 2), 0);
        CHECK.due("who: SLIP 50: 90 and 90 less 50, late by 2", x.who(0, 0, 50, 2), 130);
        CHECK.due("two: LOAD 0, SLIP 0: 80 and 80, both late by 2", x.two(0, 0, 0, 4), 160);
        CHECK.due("two: LOAD 1000", x.two(0, 1000, 0, 4), 0);
        CHECK.due("two: SLIP 50: 80 and 30", x.two(0, 0, 50, 4), 110);
    }

    /** "the HAND (0; NONE: none), by how many BEATS (1; 0), the sum (2)" */
    private static void whoIsAskedFor0To2() {
        HeaveSongs x = Made.tireless(1, 10);
        Check.song(x, "2");
        mark(x, 0, 0, 1, 1);
        CHECK.due("what -1", x.who(0, 0, 0, -1), BAD);
        who("late by 1", x, 0, 1, 0);
        CHECK.due("what 3", x.who(0, 0, 0, 3), BAD);
        x.wipe();
        mark(x, 0, 1);
        who("none", x, NONE, 0, 0);
    }

    private static void whoWithoutMarks() {
        HeaveSongs x = Made.tireless(10, 10);
        Check.song(x, "2");
        who("no marks", x, NONE, 0, 0);
    }

    private static void whoWithoutCrew() {
        HeaveSongs x = new HeaveSongs();
        Check.song(x, "2");
        mark(x, 0, 5, 299, 10);
        who("no hands", x, NONE, 0, 15);
        x.hand(50, 0, 0, 0);
        who("by 3: off by 5 at first, and by the least at last", x, 0, 3, 5 + 297 * 5 - 10);
        x.crew(0);
        who("none at the rope", x, NONE, 0, 15);
    }

    private static void marksAtBothEndsCount() {
        HeaveSongs x = Made.tireless(1, 10);
        Check.song(x, "2");
        mark(x, 0, 0);
        who("behind beat 0", x, 0, 1, 0);
        x.wipe();
        mark(x, 299, 298);
        who("behind beat 299", x, 0, 2, 0);
        mark(x, 0, 1);
        who("both", x, 0, 2, 1);
        x.wipe();
        mark(x, 299, 300);
        who("none late: 300 in 300 beats", x, NONE, 0, 0);
    }

    private static void theGreatestSums() {
        HeaveSongs x = new HeaveSongs();
        Check.song(x, "1");
        for (int m = 0; m < 60; m++) {
            x.mark(m, 5000);
        }
        who("60 times 5000", x, NONE, 0, 300000);
        HeaveSongs y = Made.tireless(10, 100);
        Check.song(y, "2");
        for (int m = 0; m < 60; m++) {
            y.mark(299, 0);
        }
        // 30000 behind the last beat; 30 less by a hand that is late by 3.
        who("60 times 29970", y, 0, 3, 60 * 29970);
        two("60 times 29940", y, 0, 1, 3, 3, 60 * 29940);
    }

    /** "or one is, by 1 .. 3" */
    private static void lateBy1To3AndNoMore() {
        for (int k = 1; k <= 4; k++) {
            HeaveSongs x = new HeaveSongs();
            x.hand(10, 0, 0, 0);
            x.hand(20, 0, 0, 0);
            Check.song(x, "2" + Made.times("1", 23));
            // 1 behind beat 0; 3 from beat k on.
            for (int t = 0; t <= 5; t++) {
                x.mark(t, t < k ? 1 : 3);
            }
            who("late by " + k, x, 1, Math.min(3, k), k == 4 ? 2 : 0);
        }
        HeaveSongs y = new HeaveSongs();
        y.hand(10, 0, 0, 0);
        y.hand(20, 0, 0, 0);
        Check.song(y, "2" + Made.times("1", 23));
        mark(y, 0, 1, 3, 1, 23, 1);
        who("one that never pulls is none that is late by 3", y, 1, 1, 4);
    }

    /** "The least sum: none ahead of one" */
    private static void noneComesAheadOfOne() {
        HeaveSongs x = Made.tireless(2, 10);
        Check.song(x, "1112");
        mark(x, 0, 0, 1, 0, 2, 0);
        who("nobody pulls so far", x, NONE, 0, 0);
        x.wipe();
        mark(x, 3, 1);
        who("one too few: one late fits", x, 0, 1, 0);
        HeaveSongs y = Made.tireless(1, 20);
        Check.song(y, "2111");
        mark(y, 0, 1);
        who("2 or 0 against 1", y, NONE, 0, 1);
    }

    /** "then the least HAND, then the fewest BEATS" */
    private static void theLeastHandThenTheFewestBeats() {
        HeaveSongs x = Made.tireless(10, 10);
        Check.song(x, "21111");
        mark(x, 0, 9);
        who("any, by any", x, 0, 1, 0);
        x.crew(1020);
        x.wipe();
        mark(x, 0, 7);
        who("any from 2 on, by any", x, 2, 1, 0);
        mark(x, 1, 7);
        who("by 2 or 3", x, 2, 2, 0);
        mark(x, 2, 7);
        who("by 3", x, 2, 3, 0);
        x.crew(512);
        x.wipe();
        mark(x, 0, 0);
        who("the tenth alone", x, 9, 1, 0);
    }

    private static void whoIsNotOfTheCrewIsNotLate() {
        HeaveSongs x = new HeaveSongs();
        x.hand(10, 0, 0, 0);
        x.hand(20, 0, 0, 0);
        Check.song(x, "2111");
        mark(x, 0, 0, 1, 1);
        x.crew(1);
        who("the first is of THE CREW", x, 0, 1, 0);
        x.crew(2);
        // 2 and 2 if none is late; 0 and 2 by 1, 0 and 0 by 2.
        who("the second is", x, 1, 1, 1);
    }

    /** "HANDS all begin at STRENGTH" */
    private static void handsBeginAtStrength() {
        HeaveSongs x = new HeaveSongs();
        x.hand(100, 30, 0, 0);
        Check.song(x, "2");
        x.haul(0, 22, 0, 0);
        CHECK.due("tired out", x.now(0), 0);
        mark(x, 0, 10, 1, 17, 2, 21, 3, 22, 299, 22);
        who("from 100", x, NONE, 0, 0);
        CHECK.due("and is tired out still", x.now(0), 0);
    }

    /** "no FLOOR, no GOAL" */
    private static void noFloorNoGoal() {
        HeaveSongs x = Made.tireless(10, 100);
        Check.song(x, "2");
        x.floor(100);
        mark(x, 29, 3000, 30, 3100, 49, 5000);
        who("beyond any GOAL", x, NONE, 0, 0);
        HeaveSongs y = Made.tireless(2, 50);
        Check.song(y, "2");
        y.floor(100);
        mark(y, 0, 10, 299, 3000);
        who("below FLOOR from the first beat on", y, NONE, 0, 0);
        y.wipe();
        mark(y, 0, 0, 1, 10, 299, 2990);
        two("below FLOOR from the first beat on", y, 0, 1, 1, 1, 0);
    }

    /** "(By LATE as told now nothing goes.)" */
    private static void lateAsToldDoesNotCount() {
        HeaveSongs x = Made.tireless(10, 10);
        Check.song(x, "2111");
        for (int h = 0; h < 10; h++) {
            x.late(h, 3);
        }
        mark(x, 0, 10, 3, 10);
        who("all pull in beat 0", x, NONE, 0, 0);
        x.wipe();
        mark(x, 0, 8, 1, 9, 2, 10);
        two("all but two", x, 0, 1, 1, 2, 0);
        CHECK.due("LATE stays", x.late(0, 3), 3);
        CHECK.due("LATE stays", x.late(9, 3), 3);
    }

    private static void twoIsOfSongsThere() {
        HeaveSongs x = Made.tireless(2, 10);
        for (int s = 0; s < 6; s++) {
            CHECK.due("two(" + s + ", ..): not there yet", x.two(s, 0, 0, 0), BAD);
            Check.song(x, "1");
            CHECK.due("two(" + s + ", ..)", x.two(s, 0, 0, 0), 0);
        }
        CHECK.due("two(6, ..)", x.two(6, 0, 0, 0), BAD);
        CHECK.due("two(-1, ..)", x.two(-1, 0, 0, 0), BAD);
    }

    /** "a (0), b (1), BEATS of a (2), of b (3), the sum (4)" */
    private static void twoIsAskedFor0To4() {
        HeaveSongs x = new HeaveSongs();
        x.hand(10, 0, 0, 0);
        x.hand(30, 0, 0, 0);
        Check.song(x, "2111");
        mark(x, 0, 0, 1, 0, 2, 1, 3, 9);
        CHECK.due("what -1", x.two(0, 0, 0, -1), BAD);
        two("by 2 and 3", x, 0, 1, 2, 3, 5);
        CHECK.due("what 5", x.two(0, 0, 0, 5), BAD);
    }

    /** "NONE: fewer than two in THE CREW." */
    private static void twoWantsTwoInTheCrew() {
        HeaveSongs x = new HeaveSongs();
        Check.song(x, "2");
        for (int what = 0; what <= 4; what++) {
            CHECK.due("no hands", x.two(0, 0, 0, what), NONE);
        }
        x.hand(10, 0, 0, 0);
        for (int what = 0; what <= 4; what++) {
            CHECK.due("one hand", x.two(0, 0, 0, what), NONE);
        }
        x.hand(10, 0, 0, 0);
        two("two hands", x, 0, 1, 1, 1, 0);
        x.hand(10, 0, 0, 0);
        int[] few = {0, 1, 2, 4};
        for (int set : few) {
            x.crew(set);
            for (int what = 0; what <= 4; what++) {
                CHECK.due("crew " + set, x.two(0, 0, 0, what), NONE);
            }
        }
        x.crew(5);
        two("crew 5", x, 0, 2, 1, 1, 0);
        x.crew(6);
        two("crew 6", x, 1, 2, 1, 1, 0);
    }

    private static void twoWithoutMarks() {
        HeaveSongs x = Made.tireless(10, 10);
        Check.song(x, "2");
        two("no marks", x, 0, 1, 1, 1, 0);
    }

    private static void twoOfTheLastHands() {
        HeaveSongs x = new HeaveSongs();
        for (int h = 0; h < 10; h++) {
            x.hand(10 * h + 10, 0, 0, 0);
        }
        Check.song(x, "21111");
        // 55 in all; 9 (10) by 3 and 8 (9) by 2.
        mark(x, 0, 36, 1, 36, 2, 45, 3, 55, 4, 55);
        two("the last two", x, 8, 9, 2, 3, 0);
        x.crew(768);
        x.wipe();
        mark(x, 0, 0, 1, 10, 2, 10, 3, 19);
        two("the last two alone", x, 8, 9, 3, 1, 0);
        x.crew(513);
        x.wipe();
        mark(x, 0, 0, 1, 10, 2, 10, 3, 11);
        two("the first and the last", x, 0, 9, 3, 1, 0);
    }

    /** "likewise two HANDS, a below b, each by 1 .. 3" */
    private static void twoBy1To3AndNoMore() {
        for (int a = 1; a <= 3; a++) {
            for (int b = 1; b <= 3; b++) {
                HeaveSongs x = new HeaveSongs();
                x.hand(10, 0, 0, 0);
                x.hand(20, 0, 0, 0);
                Check.song(x, "2" + Made.times("1", 23));
                for (int t = 0; t <= 5; t++) {
                    x.mark(t, (t >= a ? 1 : 0) + (t >= b ? 2 : 0));
                }
                two("by " + a + " and " + b, x, 0, 1, a, b, 0);
            }
        }
        HeaveSongs y = new HeaveSongs();
        y.hand(10, 0, 0, 0);
        y.hand(20, 0, 0, 0);
        y.hand(40, 0, 0, 0);
        Check.song(y, "2" + Made.times("1", 23));
        // As if 0 and 1 never pulled.
        mark(y, 0, 4, 1, 4, 2, 4, 3, 4, 4, 4);
        two("none is late by 4", y, 0, 1, 3, 3, 6);
    }

    private static void twoAreLateEvenIfNoneWas() {
        HeaveSongs x = Made.tireless(2, 10);
        Check.song(x, "2111");
        mark(x, 0, 2, 1, 2, 2, 2, 3, 2);
        two("each late by 1 is off by 2 once", x, 0, 1, 1, 1, 2);
        who("none was", x, NONE, 0, 0);
    }

    /** "(by a, b, then BEATS of a, of b)" */
    private static void twoOfLikeOnes() {
        HeaveSongs x = new HeaveSongs();
        x.hand(10, 0, 0, 0);
        x.hand(30, 0, 0, 0);
        x.hand(20, 0, 0, 0);
        x.hand(40, 0, 0, 0);
        Check.song(x, "2111");
        // 5 are missing: 0 and 3, or 1 and 2.
        mark(x, 0, 5);
        two("the least a", x, 0, 3, 1, 1, 0);
        HeaveSongs y = Made.tireless(4, 10);
        Check.song(y, "2111");
        mark(y, 0, 2, 1, 2, 2, 3);
        two("the least b, then the fewest of a", y, 0, 1, 2, 3, 0);
        y.wipe();
        mark(y, 0, 2, 1, 3);
        two("the fewest of a, then of b", y, 0, 1, 1, 2, 0);
        y.wipe();
        mark(y, 0, 2, 1, 3, 2, 3);
        two("1 and 3 ahead of 3 and 1", y, 0, 1, 1, 3, 0);
    }

    private static void askingChangesNothing() {
        for (int what = 0; what <= 4; what++) {
            int w = what;
            Twins.unchanged(CHECK, "who of some", Made::some, x -> x.who(0, 20, 3, w), Made.some().who(0, 20, 3, w));
            Twins.unchanged(CHECK, "two of some", Made::some, x -> x.two(0, 20, 3, w), Made.some().two(0, 20, 3, w));
            Twins.unchanged(CHECK, "two of full", Made::full, x -> x.two(5, 20, 3, w), Made.full().two(5, 20, 3, w));
        }
    }
}

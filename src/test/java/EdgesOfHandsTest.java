/** The edges that the document names in promises 7 to 12: hands, the crew, the floor, a pause. */
public final class EdgesOfHandsTest {
    private static final int BAD = -2, FULL = -4;
    private static final Check CHECK = new Check("EdgesOfHandsTest");

    public static void main(String[] args) {
        strengthIs1To100();
        tiresRestsBreathsAre0To30();
        handsAre0To9();
        eleventhHandChangesNothing();
        lateIs0To3();
        lateOfEachHand();
        crewIsASetOfThoseThere();
        crewOfTen();
        newHandComesToTheRope();
        floorIs0To100();
        nowIsOfThoseThere();
        pauseIs0To100();
        pauseOfNoneChangesNothing();
        pauseEndsAtStrength();
        pauseCountsThoseAtStrength();
        pauseIsForAllHands();
        CHECK.end();
    }

    /** "a STRENGTH (1 .. 100)", "a NOW (STRENGTH at first)" */
    private static void strengthIs1To100() {
        HeaveSongs x = new HeaveSongs();
        CHECK.due("hand(0, ..)", x.hand(0, 0, 0, 0), BAD);
        CHECK.due("hand(101, ..)", x.hand(101, 0, 0, 0), BAD);
        CHECK.due("no hand has come", x.count(1), 0);
        CHECK.due("none is at the rope", x.count(2), 0);
        CHECK.due("hand(1, ..)", x.hand(1, 0, 0, 0), 0);
        CHECK.due("hand(100, ..)", x.hand(100, 0, 0, 0), 1);
        CHECK.due("NOW is the least STRENGTH", x.now(0), 1);
        CHECK.due("NOW is the greatest STRENGTH", x.now(1), 100);
        Check.song(x, "2");
        x.haul(0, 10, 0, 0);
        CHECK.due("both pull", x.force(0), 101);
    }

    /** "TIRES (0 .. 30), RESTS (0 .. 30), BREATHS (0 .. 30)" */
    private static void tiresRestsBreathsAre0To30() {
        HeaveSongs x = new HeaveSongs();
        int[][] bad = {{-1, 0, 0}, {31, 0, 0}, {0, -1, 0}, {0, 31, 0}, {0, 0, -1}, {0, 0, 31}};
        for (int[] b : bad) {
            CHECK.due("hand(50, " + b[0] + ", " + b[1] + ", " + b[2] + ")", x.hand(50, b[0], b[1], b[2]), BAD);
        }
        CHECK.due("no hand has come", x.count(1), 0);
        int[][] good = {{0, 0, 0}, {30, 0, 0}, {30, 30, 0}, {30, 0, 30}, {30, 30, 30}};
        for (int h = 0; h < good.length; h++) {
            CHECK.due("hand at the edges", x.hand(100, good[h][0], good[h][1], good[h][2]), h);
        }
        // Three pulls, then a REST, then a BREATH.
        Check.song(x, "22203");
        x.haul(0, 110, 0, 0);
        CHECK.due("two pulls are not enough, three are", x.count(8), 3);
        int[] tired = {100, 10, 10, 10, 10};
        for (int h = 0; h < 5; h++) {
            CHECK.due("TIRES 0 or 30, hand " + h, x.now(h), tired[h]);
        }
        Check.song(x, "0");
        Check.song(x, "3");
        x.floor(11);
        CHECK.due("one beat of REST: some stay below FLOOR", x.haul(1, 1, 0, 0), -11);
        int[] rested = {100, 10, 40, 10, 40};
        for (int h = 0; h < 5; h++) {
            CHECK.due("RESTS 0 or 30, hand " + h, x.now(h), rested[h]);
        }
        CHECK.due("one beat of BREATH", x.haul(2, 1, 0, 0), -11);
        int[] breathed = {100, 10, 40, 40, 70};
        for (int h = 0; h < 5; h++) {
            CHECK.due("BREATHS 0 or 30, hand " + h, x.now(h), breathed[h]);
        }
    }

    /** "HANDS 0 .. 9"; "FULL: 10." */
    private static void handsAre0To9() {
        HeaveSongs x = new HeaveSongs();
        for (int h = 0; h < 10; h++) {
            CHECK.due("hand " + h + " is not there yet", x.now(h), BAD);
            CHECK.due("hand " + h, x.hand(10 + h, 0, 0, 0), h);
            CHECK.due("hands", x.count(1), h + 1);
            CHECK.due("hand " + h + " is there", x.now(h), 10 + h);
        }
        CHECK.due("the eleventh", x.hand(10, 0, 0, 0), FULL);
        CHECK.due("still ten", x.count(1), 10);
    }

    private static void eleventhHandChangesNothing() {
        HeaveSongs x = Made.tireless(10, 10);
        x.crew(1);
        long was = x.digest();
        CHECK.due("the eleventh", x.hand(100, 30, 30, 30), FULL);
        CHECK.due("a bad eleventh", x.hand(101, 30, 30, 30), BAD);
        CHECK.due("THE CREW stays", x.count(2), 1);
        CHECK.due("nothing has changed", x.digest(), was);
        CHECK.due("the tenth stays", x.now(9), 10);
        CHECK.due("there is no hand 10", x.now(10), BAD);
    }

    /** "are LATE by 0 .. 3 BEATS (0 at first)" */
    private static void lateIs0To3() {
        HeaveSongs x = Made.tireless(1, 10);
        CHECK.due("0 at first", x.late(0, 0), 0);
        CHECK.due("late(0, -1)", x.late(0, -1), BAD);
        CHECK.due("late(0, 4)", x.late(0, 4), BAD);
        CHECK.due("a refused one sets nothing", x.late(0, 3), 0);
        CHECK.due("late(0, 4)", x.late(0, 4), BAD);
        CHECK.due("a refused one sets nothing", x.late(0, 1), 3);
        CHECK.due("what it was", x.late(0, 2), 1);
        CHECK.due("what it was", x.late(0, 2), 2);
    }

    private static void lateOfEachHand() {
        HeaveSongs x = new HeaveSongs();
        CHECK.due("late without hands", x.late(0, 0), BAD);
        for (int h = 0; h < 10; h++) {
            CHECK.due("late(" + h + ", 0): not there yet", x.late(h, 0), BAD);
            x.hand(10, 0, 0, 0);
            CHECK.due("late(" + h + ", ..): 0 at first", x.late(h, h % 3 + 1), 0);
        }
        CHECK.due("late(10, 0)", x.late(10, 0), BAD);
        CHECK.due("late(-1, 0)", x.late(-1, 0), BAD);
        for (int h = 0; h < 10; h++) {
            CHECK.due("each has its own", x.late(h, 0), h % 3 + 1);
        }
    }

    /** "THE CREW (bits): what it was." */
    private static void crewIsASetOfThoseThere() {
        HeaveSongs x = new HeaveSongs();
        for (int n = 0; n <= 10; n++) {
            int all = (1 << n) - 1;
            CHECK.due("of " + n + " all came to the rope", x.count(2), all);
            CHECK.due("crew(-1) of " + n, x.crew(-1), BAD);
            CHECK.due("one that is not there, of " + n, x.crew(all + 1), BAD);
            CHECK.due("a refused one sets nothing", x.crew(0), all);
            CHECK.due("all of " + n, x.crew(all), 0);
            CHECK.due("what it was", x.crew(all), all);
            x.hand(10, 0, 0, 0);
        }
    }

    private static void crewOfTen() {
        HeaveSongs x = Made.tireless(10, 10);
        CHECK.due("the last alone", x.crew(512), 1023);
        CHECK.due("the first alone", x.crew(1), 512);
        CHECK.due("none", x.crew(0), 1);
        CHECK.due("all", x.crew(1023), 0);
        CHECK.due("1024", x.crew(1024), BAD);
        CHECK.due("least", x.crew(Integer.MIN_VALUE), BAD);
        CHECK.due("most", x.crew(Integer.MAX_VALUE), BAD);
        CHECK.due("it stays", x.count(2), 1023);
        Check.song(x, "2");
        for (int set : new int[] {0, 1, 512, 513, 1022, 1023}) {
            x.crew(set);
            x.haul(0, 1, 0, 0);
            CHECK.due("who pulls of " + set, x.force(0), 10 * Integer.bitCount(set));
        }
    }

    /** "THE CREW: which are at the rope (all, as they come)." */
    private static void newHandComesToTheRope() {
        HeaveSongs x = new HeaveSongs();
        for (int h = 0; h < 10; h++) {
            x.hand(10, 0, 0, 0);
            CHECK.due("the new one alone", x.crew(0), 1 << h);
        }
        CHECK.due("the eleventh", x.hand(10, 0, 0, 0), FULL);
        CHECK.due("does not", x.crew(0), 0);
    }

    /** "FLOOR (0 .. 100; 0 at first)" */
    private static void floorIs0To100() {
        HeaveSongs x = new HeaveSongs();
        CHECK.due("floor(-1)", x.floor(-1), BAD);
        CHECK.due("floor(101)", x.floor(101), BAD);
        CHECK.due("0 at first", x.floor(100), 0);
        CHECK.due("floor(101)", x.floor(101), BAD);
        CHECK.due("floor(-1)", x.floor(-1), BAD);
        CHECK.due("a refused one sets nothing", x.floor(1), 100);
        CHECK.due("what it was", x.floor(0), 1);
        CHECK.due("count(3)", x.count(3), 0);
    }

    private static void nowIsOfThoseThere() {
        HeaveSongs x = Made.tireless(10, 7);
        CHECK.due("now(-1)", x.now(-1), BAD);
        CHECK.due("now(0)", x.now(0), 7);
        CHECK.due("now(9)", x.now(9), 7);
        CHECK.due("now(10)", x.now(10), BAD);
    }

    /** One hand that has pulled down to 0, with that RESTS. */
    private static HeaveSongs tiredOut(int rests) {
        HeaveSongs x = new HeaveSongs();
        x.hand(100, 30, rests, 0);
        Check.song(x, "2");
        CHECK.due("10, 7, 4 and 1", x.haul(0, 22, 0, 0), 4);
        CHECK.due("not below 0", x.now(0), 0);
        return x;
    }

    /** "All HANDS rest for n BEATS (0 .. 100): RESTS more each". */
    private static void pauseIs0To100() {
        HeaveSongs x = tiredOut(1);
        CHECK.due("pause(-1)", x.pause(-1), BAD);
        CHECK.due("pause(101)", x.pause(101), BAD);
        CHECK.due("a refused one rests nobody", x.now(0), 0);
        CHECK.due("pause(100): at STRENGTH just then", x.pause(100), 1);
        CHECK.due("NOW", x.now(0), 100);
        x = tiredOut(1);
        CHECK.due("pause(1)", x.pause(1), 0);
        CHECK.due("NOW", x.now(0), 1);
        CHECK.due("pause(98)", x.pause(98), 0);
        CHECK.due("NOW", x.now(0), 99);
        CHECK.due("pause(1)", x.pause(1), 1);
    }

    private static void pauseOfNoneChangesNothing() {
        HeaveSongs x = tiredOut(30);
        long was = x.digest();
        CHECK.due("pause(0)", x.pause(0), 0);
        CHECK.due("nothing has changed", x.digest(), was);
    }

    /** "never above STRENGTH" */
    private static void pauseEndsAtStrength() {
        HeaveSongs x = tiredOut(30);
        CHECK.due("pause(3)", x.pause(3), 0);
        CHECK.due("90", x.now(0), 90);
        CHECK.due("pause(1)", x.pause(1), 1);
        CHECK.due("not 120", x.now(0), 100);
        CHECK.due("pause(100)", x.pause(100), 1);
        CHECK.due("not 3100", x.now(0), 100);
        x = tiredOut(30);
        CHECK.due("pause(100) from 0", x.pause(100), 1);
        CHECK.due("not 3000", x.now(0), 100);
        x = tiredOut(0);
        CHECK.due("RESTS 0", x.pause(100), 0);
        CHECK.due("NOW stays 0", x.now(0), 0);
    }

    /** "how many are at STRENGTH then" */
    private static void pauseCountsThoseAtStrength() {
        HeaveSongs none = new HeaveSongs();
        CHECK.due("of none", none.pause(0), 0);
        HeaveSongs x = new HeaveSongs();
        for (int h = 0; h < 10; h++) {
            x.hand(100, 30, h, 0);
        }
        CHECK.due("all at first", x.pause(0), 10);
        Check.song(x, "2");
        x.haul(0, 100, 0, 0);
        CHECK.due("30 less each", x.pause(0), 0);
        CHECK.due("hand 9 has 27 more, hand 0 none", x.pause(3), 0);
        CHECK.due("hands 8 and 9: 32 and 36", x.pause(1), 2);
        CHECK.due("6 and 7 as well; 6 just then", x.pause(1), 4);
        CHECK.due("3 to 9; 3 just then", x.pause(5), 7);
        CHECK.due("2 needs 15", x.pause(5), 8);
        CHECK.due("1 needs 30", x.pause(14), 8);
        CHECK.due("1 needs 30", x.pause(1), 9);
        CHECK.due("0 never", x.pause(100), 9);
    }

    private static void pauseIsForAllHands() {
        HeaveSongs x = new HeaveSongs();
        x.hand(50, 30, 10, 0);
        x.hand(50, 30, 10, 0);
        Check.song(x, "2");
        x.haul(0, 10, 0, 0);
        x.crew(1);
        x.floor(100);
        CHECK.due("of THE CREW or not, FLOOR or not", x.pause(3), 2);
        CHECK.due("the one of it", x.now(0), 50);
        CHECK.due("the one not of it", x.now(1), 50);
    }
}

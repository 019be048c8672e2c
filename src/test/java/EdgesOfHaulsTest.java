/** The edges that the document names of a HAUL: promises 13 to 15 and what "Terms" says of each BEAT. */
public final class EdgesOfHaulsTest {
    private static final int NONE = -1, BAD = -2;
    private static final Check CHECK = new Check("EdgesOfHaulsTest");

    public static void main(String[] args) {
        songsAreThoseThere();
        goalIs1To3000();
        loadIs0To1000();
        slipIs0To50();
        forceMustBeAboveLoad();
        byTenIsCut();
        wonIsNotBelow0();
        whoIsLateDoesNotPullAheadOfItsBeat0();
        whoIsLateDoesNotBeginAtTheSongsEnd();
        whoIsLateByMoreThanTheSong();
        pullsWithNow0();
        nowIsNotBelow0();
        nowIsNeverAboveStrengthByRests();
        nowIsNeverAboveStrengthByBreaths();
        nowIsNeverAboveStrengthOffTheRope();
        doneAtItsGoalOrMore();
        doneBehindTheFirstSuchBeat();
        failsBehind300Beats();
        floorIsNotBelowItself();
        floorOf0And100();
        floorIsOfTheCrewAlone();
        floorComesAheadOfTheGoal();
        floorBehindTheLastBeat();
        floorIsSeenBehindABeatOnly();
        failedIsMinus10LessTheBeats();
        nobodyHauls();
        noPullAtAll();
        nowIsAsItIsBehindAFailedHaul();
        wonAndForceAreOfTheBeatsThereWere();
        wonAndForceOf300Beats();
        wonAndForceOfAShorterHaulBehindALonger();
        refusedHaulLeavesTheLatest();
        CHECK.end();
    }

    private static void songsAreThoseThere() {
        HeaveSongs x = Made.tireless(1, 10);
        for (int s = 0; s < 6; s++) {
            CHECK.due("haul by song " + s + ": not there yet", x.haul(s, 1, 0, 0), BAD);
            Check.song(x, Made.times("1", s) + "2");
            CHECK.due("haul by song " + s, x.haul(s, 1, 0, 0), s + 1);
        }
        CHECK.due("haul by song 6", x.haul(6, 1, 0, 0), BAD);
        CHECK.due("haul by song -1", x.haul(-1, 1, 0, 0), BAD);
        CHECK.due("the latest is that by song 5", x.count(8), 6);
    }

    /** "its GOAL (1 .. 3000)" */
    private static void goalIs1To3000() {
        HeaveSongs x = Made.tireless(10, 100);
        Check.song(x, "2");
        CHECK.due("GOAL 0", x.haul(0, 0, 0, 0), BAD);
        CHECK.due("GOAL 1", x.haul(0, 1, 0, 0), 1);
        CHECK.due("GOAL 3000, by 100 a beat", x.haul(0, 3000, 0, 0), 30);
        CHECK.due("WON then", x.won(29), 3000);
        CHECK.due("GOAL 3001", x.haul(0, 3001, 0, 0), BAD);
    }

    /** "against a LOAD (0 .. 1000)" */
    private static void loadIs0To1000() {
        HeaveSongs x = Made.tireless(10, 100);
        Check.song(x, "2");
        CHECK.due("LOAD -1", x.haul(0, 1, -1, 0), BAD);
        CHECK.due("LOAD 0", x.haul(0, 100, 0, 0), 1);
        CHECK.due("LOAD 990 leaves 1 a beat", x.haul(0, 300, 990, 0), 300);
        CHECK.due("LOAD 991 leaves none", x.haul(0, 1, 991, 0), -310);
        CHECK.due("LOAD 1000 is not pulled", x.haul(0, 1, 1000, 0), -310);
        CHECK.due("FORCE is 1000 all the same", x.force(299), 1000);
        CHECK.due("LOAD 1001", x.haul(0, 1, 1001, 0), BAD);
    }

    /** "with a SLIP (0 .. 50)" */
    private static void slipIs0To50() {
        HeaveSongs x = Made.tireless(10, 100);
        Check.song(x, "21");
        CHECK.due("SLIP -1", x.haul(0, 1, 0, -1), BAD);
        CHECK.due("SLIP 51", x.haul(0, 1, 0, 51), BAD);
        CHECK.due("SLIP 0", x.haul(0, 200, 0, 0), 3);
        CHECK.due("nothing slips", x.won(1), 100);
        CHECK.due("SLIP 50", x.haul(0, 200, 0, 50), 5);
        CHECK.due("50 slip", x.won(1), 50);
        CHECK.due("and are won again", x.won(2), 150);
    }

    /** "If FORCE is above LOAD .. else WON is SLIP less" */
    private static void forceMustBeAboveLoad() {
        HeaveSongs x = Made.tireless(1, 30);
        Check.song(x, "2");
        int[] load = {0, 10, 20, 21, 29, 30, 31};
        int[] wonBehindTwo = {6, 4, 2, 0, 0, 0, 0};
        for (int i = 0; i < load.length; i++) {
            x.haul(0, 3000, load[i], 1);
            CHECK.due("30 against " + load[i], x.won(1), wonBehindTwo[i]);
        }
        // Wins 2 first; then 21, 20 and 19 against 20: only the first of them does not slip.
        HeaveSongs y = new HeaveSongs();
        y.hand(40, 19, 0, 0);
        Check.song(y, "2");
        y.haul(0, 3000, 20, 1);
        CHECK.due("40 against 20", y.won(0), 2);
        CHECK.due("21 against 20: no more, and no slip", y.won(1), 2);
        CHECK.due("2 against 20: slips", y.won(2), 1);
        HeaveSongs z = new HeaveSongs();
        z.hand(40, 20, 0, 0);
        Check.song(z, "2");
        z.haul(0, 3000, 20, 1);
        CHECK.due("40 against 20", z.won(0), 2);
        CHECK.due("20 against 20: slips", z.won(1), 1);
        HeaveSongs none = Made.tireless(1, 30);
        Check.song(none, "21");
        none.haul(0, 3000, 0, 1);
        CHECK.due("FORCE 0 is not above LOAD 0", none.won(1), 2);
    }

    /** "FORCE less LOAD by 10, cut" */
    private static void byTenIsCut() {
        int[] strength = {1, 9, 10, 11, 19, 20, 99, 100};
        int[] due = {0, 0, 1, 1, 1, 2, 9, 10};
        for (int i = 0; i < due.length; i++) {
            HeaveSongs x = Made.tireless(1, strength[i]);
            Check.song(x, "2");
            x.haul(0, 3000, 0, 0);
            CHECK.due(strength[i] + " by 10", x.won(0), due[i]);
            CHECK.due("and again: each beat is cut by itself", x.won(1), 2 * due[i]);
        }
        HeaveSongs y = Made.tireless(1, 100);
        Check.song(y, "2");
        y.haul(0, 3000, 1, 0);
        CHECK.due("less LOAD first, then by 10", y.won(0), 9);
        HeaveSongs two = Made.tireless(2, 15);
        Check.song(two, "2");
        two.haul(0, 3000, 0, 0);
        CHECK.due("all together first, then by 10", two.won(0), 3);
    }

    /** "WON is SLIP less, but not below 0" */
    private static void wonIsNotBelow0() {
        int[] strength = {98, 100, 102};
        int[] due = {0, 0, 1};
        for (int i = 0; i < 3; i++) {
            // Five times 98, 100, or 100 and 10 more: 49, 50 or 51 are won.
            HeaveSongs x = Made.tireless(5, Math.min(100, strength[i]));
            x.hand(strength[i] > 100 ? 10 : 1, 0, 0, 0);
            Check.song(x, "211");
            x.haul(0, 3000, 0, 50);
            CHECK.due("won", x.won(0), 49 + i);
            CHECK.due("50 less", x.won(1), due[i]);
            CHECK.due("50 less again", x.won(2), 0);
            CHECK.due("won anew from 0", x.won(3), 49 + i);
        }
        HeaveSongs y = Made.tireless(1, 10);
        Check.song(y, "112");
        y.haul(0, 3000, 0, 50);
        CHECK.due("0 at first, not below", y.won(0), 0);
        CHECK.due("nor owing", y.won(2), 1);
    }

    /** "each whose own BEAT (t less LATE) is 0 or more" */
    private static void whoIsLateDoesNotPullAheadOfItsBeat0() {
        for (int k = 0; k <= 3; k++) {
            HeaveSongs x = Made.tireless(1, 10);
            x.late(0, k);
            Check.song(x, "2");
            CHECK.due("late by " + k, x.haul(0, 1, 0, 0), k + 1);
            for (int t = 0; t < k; t++) {
                CHECK.due("not in beat " + t, x.force(t), 0);
            }
            CHECK.due("in beat " + k, x.force(k), 10);
        }
    }

    private static void whoIsLateDoesNotBeginAtTheSongsEnd() {
        for (int k = 1; k <= 3; k++) {
            HeaveSongs x = Made.tireless(1, 10);
            x.late(0, k);
            Check.song(x, "1111", "2222");
            x.haul(0, 1, 0, 0);
            CHECK.due("late by " + k + ": its first pull", x.count(8), 5 + k);
        }
    }

    private static void whoIsLateByMoreThanTheSong() {
        HeaveSongs x = Made.tireless(1, 10);
        x.late(0, 3);
        Check.song(x, "2", "0");
        x.haul(0, 2, 0, 0);
        int[] due = {0, 0, 0, 10, 0, 10};
        for (int t = 0; t < due.length; t++) {
            CHECK.due("late by 3 in a song of 2, beat " + t, x.force(t), due[t]);
        }
    }

    private static void pullsWithNow0() {
        HeaveSongs x = new HeaveSongs();
        x.hand(30, 30, 5, 0);
        Check.song(x, "22");
        Check.song(x, "20");
        x.haul(0, 3000, 0, 0);
        CHECK.due("30, then 0", x.force(1), 0);
        CHECK.due("who pulls with 0 does not rest by it", x.force(299), 0);
        CHECK.due("NOW", x.now(0), 0);
        x.haul(1, 3000, 0, 0);
        CHECK.due("a REST behind such a pull gives 5", x.force(2), 5);
    }

    /** "Each that pulled: NOW is TIRES less, not below 0" */
    private static void nowIsNotBelow0() {
        int[] strength = {29, 30, 31, 60, 61};
        int[] behindOne = {0, 0, 1, 30, 31};
        int[] behindTwo = {0, 0, 0, 0, 1};
        for (int i = 0; i < strength.length; i++) {
            HeaveSongs x = new HeaveSongs();
            x.hand(strength[i], 30, 0, 0);
            Check.song(x, "2");
            x.haul(0, 3000, 0, 0);
            CHECK.due(strength[i] + " less 30", x.force(1), behindOne[i]);
            CHECK.due(strength[i] + " less 60", x.force(2), behindTwo[i]);
            CHECK.due("at last", x.now(0), 0);
        }
    }

    /** "REST: NOW is RESTS more; .. never above STRENGTH" */
    private static void nowIsNeverAboveStrengthByRests() {
        int[] rests = {0, 9, 10, 11, 30};
        int[] due = {40, 49, 50, 50, 50};
        for (int i = 0; i < rests.length; i++) {
            HeaveSongs x = new HeaveSongs();
            x.hand(50, 10, rests[i], 30);
            Check.song(x, "20");
            x.haul(0, 3000, 0, 0);
            CHECK.due("40 and " + rests[i], x.force(2), due[i]);
        }
        HeaveSongs y = new HeaveSongs();
        y.hand(50, 10, 30, 0);
        Check.song(y, "0");
        y.haul(0, 1, 0, 0);
        CHECK.due("at STRENGTH it stays there", y.now(0), 50);
    }

    /** "BREATH: BREATHS more .. never above STRENGTH" */
    private static void nowIsNeverAboveStrengthByBreaths() {
        int[] breaths = {0, 9, 10, 11, 30};
        int[] due = {40, 49, 50, 50, 50};
        for (int i = 0; i < breaths.length; i++) {
            HeaveSongs x = new HeaveSongs();
            x.hand(50, 10, 30, breaths[i]);
            Check.song(x, "23");
            x.haul(0, 3000, 0, 0);
            CHECK.due("40 and " + breaths[i], x.force(2), due[i]);
        }
        HeaveSongs y = new HeaveSongs();
        y.hand(50, 10, 30, 30);
        Check.song(y, "21");
        y.haul(0, 3000, 0, 0);
        CHECK.due("a WORD gives nothing", y.force(2), 40);
        HeaveSongs z = new HeaveSongs();
        z.hand(50, 10, 30, 30);
        z.late(0, 1);
        Check.song(z, "2211");
        z.haul(0, 3000, 0, 0);
        CHECK.due("a PULL that is not its own gives nothing", z.force(5), 30);
    }

    /** "of those not of THE CREW: RESTS in any BEAT .. never above STRENGTH" */
    private static void nowIsNeverAboveStrengthOffTheRope() {
        for (int beat = 0; beat <= 3; beat++) {
            HeaveSongs x = new HeaveSongs();
            x.hand(50, 10, 4, 30);
            Check.song(x, "2");
            Check.song(x, "" + beat);
            x.haul(0, 5, 0, 0);
            CHECK.due("tired", x.now(0), 40);
            x.crew(0);
            x.floor(2);
            // The one of 1 is below FLOOR: each haul ends behind one beat of whatever kind.
            x.hand(1, 0, 0, 0);
            int[] due = {44, 48, 50, 50};
            for (int now : due) {
                CHECK.due("fails", x.haul(1, 3000, 0, 0), -11);
                CHECK.due("RESTS off the rope in beat " + beat, x.now(0), now);
            }
        }
    }

    /** "DONE behind the first BEAT at which WON is its GOAL or more" */
    private static void doneAtItsGoalOrMore() {
        HeaveSongs x = Made.tireless(1, 50);
        Check.song(x, "2");
        int[] goal = {4, 5, 6, 9, 10, 11};
        int[] due = {1, 1, 2, 2, 2, 3};
        for (int i = 0; i < goal.length; i++) {
            CHECK.due("by 5 to " + goal[i], x.haul(0, goal[i], 0, 0), due[i]);
            CHECK.due("WON then", x.won(due[i] - 1), 5 * due[i]);
        }
    }

    private static void doneBehindTheFirstSuchBeat() {
        HeaveSongs x = Made.tireless(1, 50);
        Check.song(x, "211");
        CHECK.due("at the goal once, ahead of the slip", x.haul(0, 5, 0, 5), 1);
        CHECK.due("never there", x.haul(0, 6, 0, 5), -310);
        HeaveSongs y = Made.tireless(1, 50);
        Check.song(y, "1");
        CHECK.due("WON 0 is no GOAL", y.haul(0, 1, 0, 0), -310);
    }

    /** "it FAILS behind 300 BEATS" */
    private static void failsBehind300Beats() {
        HeaveSongs x = Made.tireless(1, 10);
        Check.song(x, "2");
        CHECK.due("299", x.haul(0, 299, 0, 0), 299);
        CHECK.due("300", x.haul(0, 300, 0, 0), 300);
        CHECK.due("301", x.haul(0, 301, 0, 0), -310);
        CHECK.due("300 beats were made", x.count(8), 300);
        CHECK.due("WON at last", x.won(299), 300);
        CHECK.due("there is no more", x.won(300), NONE);
    }

    /** "a NOW below FLOOR" */
    private static void floorIsNotBelowItself() {
        for (int floor = 69; floor <= 71; floor++) {
            HeaveSongs x = new HeaveSongs();
            x.hand(100, 30, 0, 0);
            Check.song(x, "2");
            x.floor(floor);
            CHECK.due("NOW 70, FLOOR " + floor, x.haul(0, 10, 0, 0), floor <= 70 ? 1 : -11);
        }
    }

    private static void floorOf0And100() {
        HeaveSongs x = new HeaveSongs();
        x.hand(30, 30, 0, 0);
        Check.song(x, "2");
        CHECK.due("FLOOR 0: NOW 0 is not below", x.haul(0, 4, 0, 0), -310);
        x.floor(1);
        CHECK.due("FLOOR 1: NOW 0 is", x.haul(0, 4, 0, 0), -11);
        HeaveSongs y = Made.tireless(1, 100);
        Check.song(y, "2");
        y.floor(100);
        CHECK.due("FLOOR 100: NOW 100 is not below", y.haul(0, 30, 0, 0), 3);
        HeaveSongs z = Made.tireless(1, 99);
        Check.song(z, "2");
        z.floor(100);
        CHECK.due("FLOOR 100: NOW 99 is, from the first beat on", z.haul(0, 30, 0, 0), -11);
    }

    private static void floorIsOfTheCrewAlone() {
        HeaveSongs x = Made.tireless(10, 50);
        Check.song(x, "2");
        x.floor(51);
        CHECK.due("all are below", x.haul(0, 1, 0, 0), -11);
        x.crew(0);
        CHECK.due("none of them is of THE CREW", x.haul(0, 1, 0, 0), -310);
        HeaveSongs y = Made.tireless(9, 50);
        y.hand(40, 0, 0, 0);
        Check.song(y, "2");
        y.floor(41);
        CHECK.due("the tenth is below", y.haul(0, 1, 0, 0), -11);
        y.crew(511);
        CHECK.due("the tenth is not of THE CREW", y.haul(0, 1, 0, 0), 1);
    }

    /** "(also if it would be DONE)" */
    private static void floorComesAheadOfTheGoal() {
        HeaveSongs x = new HeaveSongs();
        x.hand(100, 30, 0, 0);
        Check.song(x, "112");
        x.floor(71);
        CHECK.due("at its goal, but below FLOOR", x.haul(0, 10, 0, 0), -13);
        CHECK.due("WON is its goal", x.won(2), 10);
        CHECK.due("NOW", x.now(0), 70);
    }

    private static void floorBehindTheLastBeat() {
        // Pulls in beat 299 alone: by a round of 36, of which the 12th is the pull: 11, 47, .. 299.
        HeaveSongs x = new HeaveSongs();
        x.hand(100, 1, 0, 0);
        Check.song(x, Made.times("1", 11) + "2" + Made.times("1", 12), Made.times("1", 12));
        CHECK.due("the 300th beat is a pull", x.beatAt(0, 299), 2);
        // 10 by the first pull, 9 by each of the eight behind it.
        CHECK.due("the ninth pull is it", x.haul(0, 82, 0, 0), 300);
        CHECK.due("NOW", x.now(0), 91);
        HeaveSongs y = new HeaveSongs();
        y.hand(100, 1, 0, 0);
        Check.song(y, Made.times("1", 11) + "2" + Made.times("1", 12), Made.times("1", 12));
        y.floor(92);
        CHECK.due("below FLOOR behind the 300th, at its goal", y.haul(0, 82, 0, 0), -310);
        CHECK.due("WON is its goal", y.won(299), 82);
    }

    private static void floorIsSeenBehindABeatOnly() {
        HeaveSongs x = new HeaveSongs();
        x.hand(50, 30, 30, 30);
        Check.song(x, "2");
        Check.song(x, "02");
        Check.song(x, "32");
        Check.song(x, "12");
        x.haul(0, 5, 0, 0);
        CHECK.due("NOW", x.now(0), 20);
        x.floor(50);
        CHECK.due("a REST lifts it in time; the pull then does not", x.haul(1, 3000, 0, 0), -12);
        CHECK.due("a BREATH lifts it in time; the pull then does not", x.haul(2, 3000, 0, 0), -12);
        CHECK.due("a WORD lifts nobody", x.haul(3, 3000, 0, 0), -11);
    }

    /** "-10 less the BEATS, if it FAILED" */
    private static void failedIsMinus10LessTheBeats() {
        for (int n : new int[] {1, 2, 10, 24}) {
            HeaveSongs x = new HeaveSongs();
            x.hand(100, 30, 0, 0);
            x.floor(71);
            Check.song(x, Made.times("1", n - 1) + "2");
            CHECK.due("fails behind " + n, x.haul(0, 3000, 0, 0), -10 - n);
            CHECK.due("its beats", x.count(8), n);
        }
    }

    private static void nobodyHauls() {
        HeaveSongs x = new HeaveSongs();
        Check.song(x, "2");
        x.floor(100);
        CHECK.due("no hands", x.haul(0, 1, 0, 50), -310);
        CHECK.due("its beats", x.count(8), 300);
        CHECK.due("FORCE", x.force(0), 0);
        CHECK.due("WON", x.won(299), 0);
        HeaveSongs y = new HeaveSongs();
        y.hand(100, 30, 1, 0);
        Check.song(y, "2");
        y.haul(0, 22, 0, 0);
        CHECK.due("tired", y.now(0), 0);
        y.crew(0);
        CHECK.due("none at the rope", y.haul(0, 1, 0, 0), -310);
        CHECK.due("who is not rests meanwhile", y.now(0), 100);
    }

    private static void noPullAtAll() {
        for (String verse : new String[] {"0", "1", "3", "013"}) {
            HeaveSongs x = Made.tireless(10, 100);
            Check.song(x, verse);
            CHECK.due("a song of " + verse, x.haul(0, 1, 0, 0), -310);
            CHECK.due("FORCE", x.force(299), 0);
        }
    }

    private static void nowIsAsItIsBehindAFailedHaul() {
        HeaveSongs x = new HeaveSongs();
        x.hand(100, 1, 0, 0);
        Check.song(x, "1112");
        CHECK.due("fails", x.haul(0, 3000, 0, 0), -310);
        CHECK.due("75 pulls", x.now(0), 25);
        CHECK.due("fails", x.haul(0, 3000, 0, 0), -310);
        CHECK.due("75 more", x.now(0), 0);
    }

    /** "WON behind BEAT t. NONE: not so many BEATS. BAD: t below 0." */
    private static void wonAndForceAreOfTheBeatsThereWere() {
        HeaveSongs x = Made.tireless(1, 10);
        Check.song(x, "2");
        CHECK.due("no haul: won(0)", x.won(0), NONE);
        CHECK.due("no haul: force(0)", x.force(0), NONE);
        CHECK.due("no haul: won(-1)", x.won(-1), BAD);
        CHECK.due("no haul: force(-1)", x.force(-1), BAD);
        x.haul(0, 2, 0, 0);
        CHECK.due("won(0)", x.won(0), 1);
        CHECK.due("won(1)", x.won(1), 2);
        CHECK.due("won(2)", x.won(2), NONE);
        CHECK.due("won(-1)", x.won(-1), BAD);
        CHECK.due("won least", x.won(Integer.MIN_VALUE), BAD);
        CHECK.due("won most", x.won(Integer.MAX_VALUE), NONE);
        CHECK.due("force(0)", x.force(0), 10);
        CHECK.due("force(1)", x.force(1), 10);
        CHECK.due("force(2)", x.force(2), NONE);
        CHECK.due("force(-1)", x.force(-1), BAD);
        CHECK.due("force least", x.force(Integer.MIN_VALUE), BAD);
        CHECK.due("force most", x.force(Integer.MAX_VALUE), NONE);
    }

    private static void wonAndForceOf300Beats() {
        HeaveSongs x = Made.tireless(10, 100);
        Check.song(x, "21");
        x.haul(0, 3000, 0, 50);
        CHECK.due("58 times 100 less 50, then 100", x.count(8), 117);
        x.haul(0, 3000, 900, 10);
        CHECK.due("all slips again", x.count(8), 300);
        CHECK.due("won(298)", x.won(298), 10);
        CHECK.due("won(299)", x.won(299), 0);
        CHECK.due("won(300)", x.won(300), NONE);
        CHECK.due("force(298)", x.force(298), 1000);
        CHECK.due("force(299)", x.force(299), 0);
        CHECK.due("force(300)", x.force(300), NONE);
    }

    private static void wonAndForceOfAShorterHaulBehindALonger() {
        HeaveSongs x = Made.tireless(1, 10);
        Check.song(x, "2");
        x.haul(0, 300, 0, 0);
        x.haul(0, 1, 0, 0);
        CHECK.due("won(0)", x.won(0), 1);
        CHECK.due("won(1) is of the one ahead", x.won(1), NONE);
        CHECK.due("force(1) is of the one ahead", x.force(1), NONE);
        CHECK.due("won(299) is of the one ahead", x.won(299), NONE);
    }

    private static void refusedHaulLeavesTheLatest() {
        HeaveSongs x = new HeaveSongs();
        x.hand(50, 7, 3, 2);
        Check.song(x, "2");
        x.haul(0, 5, 0, 0);
        long was = x.digest();
        int[][] bad = {{1, 1, 0, 0}, {0, 0, 0, 0}, {0, 3001, 0, 0}, {0, 1, 1001, 0}, {0, 1, 0, 51}};
        for (int[] b : bad) {
            CHECK.due("refused", x.haul(b[0], b[1], b[2], b[3]), BAD);
            CHECK.due("its beats", x.count(8), 1);
            CHECK.due("its WON", x.won(0), 5);
            CHECK.due("nobody tires", x.now(0), 43);
            CHECK.due("nothing has changed", x.digest(), was);
        }
    }
}

/** The edges that the document names in promises 1 to 6: the row, verses, refrains, and a song as it is sung. */
public final class EdgesOfSongsTest {
    private static final int NONE = -1, BAD = -2, NO = -3, FULL = -4;
    private static final Check CHECK = new Check("EdgesOfSongsTest");

    public static void main(String[] args) {
        newObjectHasNothing();
        newObjectNumbersFromTheFirst();
        the512thCallIsAnsweredAsAny();
        beatsAre0To3();
        rowHasAtMost24();
        fullRowCanBeUsedOrEmptied();
        restOfNoneSomeAndAll();
        verseHas1To24();
        songsAre0To5();
        seventhSongLeavesTheRow();
        refrainHas0To12();
        refrainOf13LeavesAll();
        refrainComesInPlaceOfWhatItWas();
        refrainOfEachSong();
        rowIsNotTheSong();
        sungOnAndOnInTheLongestSong();
        sungOnAndOnInTheShortestSong();
        sungOnAndOnWithoutRefrain();
        sungOnAndOnWithTheShortestVerse();
        beatAtIs0To1000();
        CHECK.end();
    }

    /** "No SONGS, HANDS, TASKS, WORDS, MARKS." */
    private static void newObjectHasNothing() {
        HeaveSongs x = new HeaveSongs();
        for (int what = 0; what <= 8; what++) {
            CHECK.due("new: count(" + what + ")", x.count(what), 0);
        }
        CHECK.due("new: rest()", x.rest(), 0);
        CHECK.due("new: song()", x.song(), NO);
        CHECK.due("new: refrain(0)", x.refrain(0), BAD);
        CHECK.due("new: now(0)", x.now(0), BAD);
        CHECK.due("new: crew(0)", x.crew(0), 0);
        CHECK.due("new: FLOOR is 0 at first", x.floor(0), 0);
        CHECK.due("new: PAUSE is 0 at first", x.between(0), 0);
        CHECK.due("new: pause(100)", x.pause(100), 0);
        CHECK.due("new: won(0)", x.won(0), NONE);
        CHECK.due("new: force(0)", x.force(0), NONE);
        CHECK.due("new: plan()", x.plan(), NO);
        CHECK.due("new: wipe()", x.wipe(), 0);
        CHECK.due("new: tree()", x.tree(), 0);
        CHECK.due("new: digest()", x.digest(), 283L * 31 * 31 * 31 * 31 * 31 * 31 * 31 * 31 * 31);
    }

    private static void newObjectNumbersFromTheFirst() {
        Made.full();
        HeaveSongs x = new HeaveSongs();
        CHECK.due("the first beat", x.beat(0), 1);
        CHECK.due("the first song", x.song(), 0);
        CHECK.due("the first hand", x.hand(1, 0, 0, 0), 0);
        CHECK.due("the first task", x.task(1, 0, 0), 0);
        CHECK.due("the first word", x.word(1, 0), 0);
        CHECK.due("the first mark", x.mark(0, 0), 1);
    }

    /** "An object is used for at most 512 calls after it has been made". */
    private static void the512thCallIsAnsweredAsAny() {
        HeaveSongs once = Made.tireless(1, 10);
        HeaveSongs x = Made.tireless(1, 10);
        for (HeaveSongs y : new HeaveSongs[] {once, x}) {
            y.beat(2);
            y.song();
        }
        once.haul(0, 300, 0, 0);
        for (int call = 4; call < 512; call++) {
            CHECK.due("haul, call " + call, x.haul(0, 300, 0, 0), 300);
        }
        CHECK.due("digest, call 512", x.digest(), once.digest());
    }

    /** "A BEAT more of THE ROW (0 .. 3)." */
    private static void beatsAre0To3() {
        HeaveSongs x = new HeaveSongs();
        CHECK.due("beat(-1)", x.beat(-1), BAD);
        CHECK.due("beat(0)", x.beat(0), 1);
        CHECK.due("beat(1)", x.beat(1), 2);
        CHECK.due("beat(2)", x.beat(2), 3);
        CHECK.due("beat(3)", x.beat(3), 4);
        CHECK.due("beat(4)", x.beat(4), BAD);
        x.song();
        for (int v = 0; v <= 3; v++) {
            CHECK.due("beat " + v + " is kept", x.beatAt(0, v), v);
        }
        CHECK.due("a refused one is not", x.beatAt(0, 4), 0);
    }

    /** "FULL: 24." */
    private static void rowHasAtMost24() {
        HeaveSongs x = new HeaveSongs();
        for (int n = 1; n <= 24; n++) {
            CHECK.due("beat " + n, x.beat(n % 4), n);
        }
        for (int v = 0; v <= 3; v++) {
            CHECK.due("beat 25, a " + v, x.beat(v), FULL);
        }
        CHECK.due("24 are kept", x.count(7), 24);
        CHECK.due("song", x.song(), 0);
        for (int t = 0; t < 24; t++) {
            CHECK.due("beat " + t + " is as it was", x.beatAt(0, t), (t + 1) % 4);
        }
    }

    private static void fullRowCanBeUsedOrEmptied() {
        HeaveSongs x = new HeaveSongs();
        Check.beats(x, Made.times("1", 24));
        CHECK.due("full", x.beat(1), FULL);
        CHECK.due("rest of a full row", x.rest(), 24);
        CHECK.due("a beat behind it", x.beat(1), 1);
        Check.beats(x, Made.times("1", 23));
        CHECK.due("full again", x.beat(1), FULL);
        CHECK.due("song of a full row", x.song(), 0);
        CHECK.due("a beat behind it", x.beat(1), 1);
        Check.beats(x, Made.times("1", 22));
        CHECK.due("the 24th", x.beat(1), 24);
        CHECK.due("the 25th", x.beat(1), FULL);
    }

    /** "THE ROW is empty: how many it had." */
    private static void restOfNoneSomeAndAll() {
        for (int n : new int[] {0, 1, 12, 13, 23, 24}) {
            HeaveSongs x = new HeaveSongs();
            Check.beats(x, Made.times("2", n));
            CHECK.due("rest() of " + n, x.rest(), n);
            CHECK.due("it is empty then", x.count(7), 0);
            CHECK.due("and has nothing for a song", x.song(), NO);
            CHECK.due("rest() again", x.rest(), 0);
        }
    }

    /** "have a VERSE (1 .. 24 BEATS)"; "NO: THE ROW is empty". */
    private static void verseHas1To24() {
        for (int n : new int[] {1, 2, 23, 24}) {
            HeaveSongs x = new HeaveSongs();
            Check.beats(x, "3" + Made.times("1", n - 1));
            CHECK.due("song of " + n, x.song(), 0);
            CHECK.due("THE ROW is empty then", x.count(7), 0);
            for (int t = 0; t <= 2 * n; t++) {
                CHECK.due("verse of " + n + ", beat " + t, x.beatAt(0, t), t % n == 0 ? 3 : 1);
            }
        }
        HeaveSongs x = new HeaveSongs();
        CHECK.due("song of none", x.song(), NO);
        CHECK.due("no song is made", x.count(0), 0);
        Check.song(x, "1");
        CHECK.due("song of none behind a song", x.song(), NO);
        CHECK.due("no song is made", x.count(0), 1);
    }

    /** "SONGS 0 .. 5"; "FULL: 6." */
    private static void songsAre0To5() {
        HeaveSongs x = new HeaveSongs();
        for (int s = 0; s < 6; s++) {
            CHECK.due("song " + s + " is not there yet", x.beatAt(s, 0), BAD);
            x.beat(s % 4);
            CHECK.due("song " + s, x.song(), s);
            CHECK.due("songs", x.count(0), s + 1);
            CHECK.due("song " + s + " is there", x.beatAt(s, 0), s % 4);
        }
        CHECK.due("song 6 is none", x.beatAt(6, 0), BAD);
        CHECK.due("an empty row: NO, not FULL", x.song(), NO);
        x.beat(1);
        CHECK.due("the seventh", x.song(), FULL);
        CHECK.due("still six", x.count(0), 6);
    }

    private static void seventhSongLeavesTheRow() {
        HeaveSongs x = new HeaveSongs();
        for (int s = 0; s < 6; s++) {
            Check.song(x, "1");
        }
        Check.beats(x, "302");
        CHECK.due("the seventh", x.song(), FULL);
        CHECK.due("THE ROW stays", x.count(7), 3);
        CHECK.due("and grows", x.beat(1), 4);
        CHECK.due("and becomes a refrain", x.refrain(5), 4);
        int[] due = {1, 3, 0, 2, 1, 1};
        for (int t = 0; t < due.length; t++) {
            CHECK.due("song 5, beat " + t, x.beatAt(5, t), due[t]);
        }
    }

    /** "and a REFRAIN (0 .. 12)"; "NO: above 12". */
    private static void refrainHas0To12() {
        for (int n = 0; n <= 24; n++) {
            HeaveSongs x = new HeaveSongs();
            Check.song(x, "1", "3");
            Check.beats(x, Made.times("2", n));
            CHECK.due("refrain of " + n, x.refrain(0), n <= 12 ? n : NO);
            CHECK.due("THE ROW behind it", x.count(7), n <= 12 ? 0 : n);
            CHECK.due("the first of it", x.beatAt(0, 1), n == 0 ? 1 : n <= 12 ? 2 : 3);
        }
    }

    private static void refrainOf13LeavesAll() {
        HeaveSongs x = new HeaveSongs();
        Check.song(x, "1", "32");
        Check.beats(x, Made.times("0", 13));
        long was = x.digest();
        CHECK.due("refrain of 13", x.refrain(0), NO);
        CHECK.due("nothing has changed", x.digest(), was);
        CHECK.due("the refrain", x.beatAt(0, 1), 3);
        CHECK.due("the refrain's last", x.beatAt(0, 2), 2);
        CHECK.due("the verse behind it", x.beatAt(0, 3), 1);
        CHECK.due("THE ROW becomes a song", x.song(), 1);
        CHECK.due("its last", x.beatAt(1, 12), 0);
    }

    /** "in place of what it was" */
    private static void refrainComesInPlaceOfWhatItWas() {
        HeaveSongs x = new HeaveSongs();
        Check.song(x, "1");
        String[] refrains = {"", "2", "", "333333333333", "0", "222222222222", "30", ""};
        for (String refrain : refrains) {
            Check.beats(x, refrain);
            CHECK.due("refrain " + refrain, x.refrain(0), refrain.length());
            String round = "1" + refrain + "1";
            for (int t = 0; t < round.length(); t++) {
                CHECK.due("1 and " + refrain + ", beat " + t, x.beatAt(0, t), round.charAt(t) - '0');
            }
        }
    }

    private static void refrainOfEachSong() {
        HeaveSongs x = new HeaveSongs();
        for (int s = 0; s < 6; s++) {
            Check.song(x, "1");
        }
        for (int s = 0; s < 6; s++) {
            x.beat(s % 4);
            CHECK.due("refrain(" + s + ")", x.refrain(s), 1);
        }
        x.beat(2);
        CHECK.due("refrain(6)", x.refrain(6), BAD);
        CHECK.due("refrain(-1)", x.refrain(-1), BAD);
        CHECK.due("THE ROW stays", x.count(7), 1);
        for (int s = 0; s < 6; s++) {
            CHECK.due("song " + s + " has its own", x.beatAt(s, 1), s % 4);
        }
    }

    private static void rowIsNotTheSong() {
        HeaveSongs x = new HeaveSongs();
        Check.song(x, "12", "30");
        Check.beats(x, "3333");
        int[] due = {1, 2, 3, 0};
        for (int t = 0; t < 4; t++) {
            CHECK.due("the song behind new beats, " + t, x.beatAt(0, t), due[t]);
        }
    }

    /** "sung: VERSE, REFRAIN, VERSE, REFRAIN, .. on and on" */
    private static void sungOnAndOnInTheLongestSong() {
        HeaveSongs x = new HeaveSongs();
        Check.song(x, "0" + Made.times("1", 22) + "2", "3" + Made.times("1", 10) + "0");
        for (int round = 0; round <= 27 * 36; round += 9 * 36) {
            CHECK.due("verse, first, " + round, x.beatAt(0, round), 0);
            CHECK.due("verse, second, " + round, x.beatAt(0, round + 1), 1);
            CHECK.due("verse, last, " + round, x.beatAt(0, round + 23), 2);
            CHECK.due("refrain, first, " + round, x.beatAt(0, round + 24), 3);
        }
        CHECK.due("refrain, last but one", x.beatAt(0, 34), 1);
        CHECK.due("refrain, last", x.beatAt(0, 35), 0);
        CHECK.due("the verse again", x.beatAt(0, 36 + 23), 2);
        CHECK.due("the refrain again", x.beatAt(0, 36 + 24), 3);
        CHECK.due("beat 996 is the refrain's first", x.beatAt(0, 996), 3);
        CHECK.due("beat 1000 is its fifth", x.beatAt(0, 1000), 1);
    }

    private static void sungOnAndOnInTheShortestSong() {
        for (int v = 0; v <= 3; v++) {
            HeaveSongs x = new HeaveSongs();
            x.beat(v);
            x.song();
            for (int t : new int[] {0, 1, 2, 23, 24, 35, 36, 299, 300, 999, 1000}) {
                CHECK.due("one beat alone, " + t, x.beatAt(0, t), v);
            }
        }
    }

    private static void sungOnAndOnWithoutRefrain() {
        HeaveSongs x = new HeaveSongs();
        Check.song(x, "3" + Made.times("0", 22) + "2");
        for (int round = 0; round <= 960; round += 24) {
            CHECK.due("first, " + round, x.beatAt(0, round), 3);
            CHECK.due("last, " + round, x.beatAt(0, round + 23), 2);
        }
        CHECK.due("beat 1000 is the 17th", x.beatAt(0, 1000), 0);
    }

    private static void sungOnAndOnWithTheShortestVerse() {
        HeaveSongs x = new HeaveSongs();
        Check.song(x, "3", "2" + Made.times("1", 10) + "0");
        for (int round = 0; round <= 975; round += 13) {
            CHECK.due("verse, " + round, x.beatAt(0, round), 3);
            CHECK.due("refrain, first, " + round, x.beatAt(0, round + 1), 2);
            CHECK.due("refrain, last, " + round, x.beatAt(0, round + 12), 0);
        }
    }

    /** "BEAT t (0 .. 1000)" */
    private static void beatAtIs0To1000() {
        HeaveSongs x = new HeaveSongs();
        Check.song(x, "2", "1");
        CHECK.due("beatAt(0, -1)", x.beatAt(0, -1), BAD);
        CHECK.due("beatAt(0, 0)", x.beatAt(0, 0), 2);
        CHECK.due("beatAt(0, 999)", x.beatAt(0, 999), 1);
        CHECK.due("beatAt(0, 1000)", x.beatAt(0, 1000), 2);
        CHECK.due("beatAt(0, 1001)", x.beatAt(0, 1001), BAD);
        CHECK.due("beatAt(0, least)", x.beatAt(0, Integer.MIN_VALUE), BAD);
        CHECK.due("beatAt(0, most)", x.beatAt(0, Integer.MAX_VALUE), BAD);
        CHECK.due("beatAt(-1, 1000)", x.beatAt(-1, 1000), BAD);
        CHECK.due("beatAt(1, 1000)", x.beatAt(1, 1000), BAD);
    }
}

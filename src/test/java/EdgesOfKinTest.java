import java.math.BigInteger;
import java.util.ArrayList;
import java.util.List;

/** The edges that the document names in promises 30 to 34: kin, the tree, counts, and the digest. */
public final class EdgesOfKinTest {
    private static final int NONE = -1, BAD = -2;
    private static final Check CHECK = new Check("EdgesOfKinTest");

    public static void main(String[] args) {
        apartIsOfSongsThere();
        apartFromItself();
        apartByAllThereIs();
        apartByLengthAlone();
        apartWithoutRefrains();
        versesAndRefrainsByThemselves();
        eachKindOfChange();
        hangsIsOfSongsThere();
        song0HangsToNone();
        treeOfNoneAndOne();
        treeOfSixAlike();
        treeThatGoesBackwards();
        treeOfTheFarthest();
        treeOfLikeOnesTheLeastNumberComesFirst();
        treeOfLikeOnesHangsToTheLeast();
        countIs0To8();
        countOfAllAtTheirMost();
        countOfTheCrewIsTheSet();
        digestGoesRoundALong();
        digestBeatByBeatOverTheEdge();
        digestTakesWhatIsThereAlone();
        digestDoesNotTakeThePause();
        askingChangesNothing();
        CHECK.end();
    }

    private static void apartIsOfSongsThere() {
        HeaveSongs x = new HeaveSongs();
        for (int s = 0; s < 6; s++) {
            CHECK.due("apart(" + s + ", 0): not there yet", x.apart(s, 0), BAD);
            CHECK.due("apart(0, " + s + "): not there yet", x.apart(0, s), BAD);
            Check.song(x, Made.times("1", s + 1));
            CHECK.due("apart(" + s + ", 0)", x.apart(s, 0), s);
            CHECK.due("apart(0, " + s + ")", x.apart(0, s), s);
        }
        CHECK.due("apart(6, 0)", x.apart(6, 0), BAD);
        CHECK.due("apart(0, 6)", x.apart(0, 6), BAD);
        CHECK.due("apart(-1, 5)", x.apart(-1, 5), BAD);
        CHECK.due("apart(5, -1)", x.apart(5, -1), BAD);
        CHECK.due("apart(6, 6)", x.apart(6, 6), BAD);
    }

    private static void apartFromItself() {
        HeaveSongs x = new HeaveSongs();
        Check.song(x, "1");
        Check.song(x, Made.times("0123", 6), Made.times("3210", 3));
        Check.song(x, Made.times("0123", 6), Made.times("3210", 3));
        CHECK.due("the shortest", x.apart(0, 0), 0);
        CHECK.due("the longest", x.apart(1, 1), 0);
        CHECK.due("two alike", x.apart(1, 2), 0);
    }

    private static void apartByAllThereIs() {
        HeaveSongs x = new HeaveSongs();
        Check.song(x, Made.times("1", 24), Made.times("2", 12));
        Check.song(x, Made.times("2", 24), Made.times("3", 12));
        Check.song(x, Made.times("1", 23) + "0", Made.times("2", 11) + "0");
        Check.song(x, "0" + Made.times("1", 23), "0" + Made.times("2", 11));
        CHECK.due("all made other ones", x.apart(0, 1), 36);
        CHECK.due("the last of each", x.apart(0, 2), 2);
        CHECK.due("the first of each", x.apart(0, 3), 2);
        CHECK.due("from the last to the first", x.apart(2, 3), 4);
    }

    private static void apartByLengthAlone() {
        HeaveSongs x = new HeaveSongs();
        Check.song(x, "1");
        Check.song(x, Made.times("1", 24));
        Check.song(x, Made.times("2", 24));
        Check.song(x, Made.times("2", 12) + "1" + Made.times("2", 11));
        CHECK.due("23 put in", x.apart(0, 1), 23);
        CHECK.due("23 taken out", x.apart(1, 0), 23);
        CHECK.due("and one made another one", x.apart(0, 2), 24);
        CHECK.due("and one made another one", x.apart(2, 0), 24);
        CHECK.due("put in on both sides", x.apart(0, 3), 23);
        CHECK.due("taken out on both sides", x.apart(3, 0), 23);
    }

    private static void apartWithoutRefrains() {
        HeaveSongs x = new HeaveSongs();
        Check.song(x, "1");
        Check.song(x, "1");
        Check.song(x, "1", Made.times("1", 12));
        Check.song(x, "1", "0");
        CHECK.due("both without", x.apart(0, 1), 0);
        CHECK.due("none against 12", x.apart(0, 2), 12);
        CHECK.due("12 against none", x.apart(2, 0), 12);
        CHECK.due("none against one", x.apart(0, 3), 1);
        CHECK.due("one against 12", x.apart(3, 2), 12);
        CHECK.due("an empty row takes it away", x.refrain(2), 0);
        CHECK.due("both without then", x.apart(0, 2), 0);
    }

    /** "to make the one's VERSE the other's, and as many for REFRAINS" */
    private static void versesAndRefrainsByThemselves() {
        HeaveSongs x = new HeaveSongs();
        Check.song(x, "12", "3");
        Check.song(x, "1", "23");
        Check.song(x, "3", "12");
        CHECK.due("sung alike, but not of like parts", x.apart(0, 1), 2);
        CHECK.due("the parts changed about", x.apart(0, 2), 4);
    }

    /** "put in, taken out, or made another one" */
    private static void eachKindOfChange() {
        HeaveSongs x = new HeaveSongs();
        Check.song(x, "0123");
        Check.song(x, "01223");
        Check.song(x, "013");
        Check.song(x, "0133");
        Check.song(x, "1230");
        Check.song(x, "3210");
        CHECK.due("one put in", x.apart(0, 1), 1);
        CHECK.due("one taken out", x.apart(0, 2), 1);
        CHECK.due("one made another one", x.apart(0, 3), 1);
        CHECK.due("one taken out and put in elsewhere", x.apart(0, 4), 2);
        CHECK.due("turned about", x.apart(0, 5), 4);
        CHECK.due("two taken out", x.apart(1, 2), 2);
    }

    private static void hangsIsOfSongsThere() {
        HeaveSongs x = new HeaveSongs();
        for (int s = 0; s < 6; s++) {
            CHECK.due("hangs(" + s + "): not there yet", x.hangs(s), BAD);
            Check.song(x, Made.times("1", s + 1));
            CHECK.due("hangs(" + s + ")", x.hangs(s), s - 1);
        }
        CHECK.due("hangs(6)", x.hangs(6), BAD);
        CHECK.due("hangs(-1)", x.hangs(-1), BAD);
    }

    /** "NONE: SONG 0." */
    private static void song0HangsToNone() {
        HeaveSongs x = new HeaveSongs();
        for (int n = 1; n <= 6; n++) {
            Check.song(x, Made.times("2", 7 - n));
            CHECK.due("of " + n, x.hangs(0), NONE);
        }
    }

    private static void treeOfNoneAndOne() {
        HeaveSongs x = new HeaveSongs();
        CHECK.due("of none", x.tree(), 0);
        Check.song(x, Made.times("2", 24), Made.times("1", 12));
        CHECK.due("of one", x.tree(), 0);
        Check.song(x, "2", "1");
        CHECK.due("of two", x.tree(), 23 + 11);
        CHECK.due("the second hangs to the first", x.hangs(1), 0);
    }

    private static void treeOfSixAlike() {
        HeaveSongs x = new HeaveSongs();
        for (int s = 0; s < 6; s++) {
            Check.song(x, "12", "3");
        }
        CHECK.due("nothing apart", x.tree(), 0);
        for (int s = 1; s < 6; s++) {
            CHECK.due("of like ones the least: " + s, x.hangs(s), 0);
        }
    }

    private static void treeThatGoesBackwards() {
        HeaveSongs x = new HeaveSongs();
        Check.song(x, "1");
        for (int n = 6; n >= 2; n--) {
            Check.song(x, Made.times("1", n));
        }
        CHECK.due("a beat more each", x.tree(), 5);
        int[] due = {NONE, 2, 3, 4, 5, 0};
        for (int s = 0; s < 6; s++) {
            CHECK.due("hangs(" + s + ")", x.hangs(s), due[s]);
        }
        CHECK.due("asked again", x.tree(), 5);
        x.beat(2);
        x.refrain(5);
        // 5 is one more from all: 4 is two from 0, as 5 is; 4 comes first, and 5 hangs to 0.
        CHECK.due("behind a refrain of the sixth", x.tree(), 2 + 1 + 1 + 1 + 2);
        CHECK.due("hangs(4) then", x.hangs(4), 0);
        CHECK.due("hangs(5) then", x.hangs(5), 0);
    }

    private static void treeOfTheFarthest() {
        HeaveSongs x = new HeaveSongs();
        for (int v = 0; v <= 3; v++) {
            Check.song(x, Made.times("" + v, 24), Made.times("" + v, 12));
        }
        CHECK.due("36 each", x.tree(), 108);
        for (int s = 1; s <= 3; s++) {
            CHECK.due("of like ones the least: " + s, x.hangs(s), 0);
        }
    }

    /** "(of like ones the least number)" */
    private static void treeOfLikeOnesTheLeastNumberComesFirst() {
        HeaveSongs x = new HeaveSongs();
        Check.song(x, "0000");
        Check.song(x, "1110");
        Check.song(x, "0120");
        Check.song(x, "1000");
        // 3 is one from 0. Then 1 is two from 3, and 2 is two from 0: 1 comes first, and hangs to 3;
        // had 2 come first, 1 would be two from 2 as well, and 2 is less than 3.
        int[] due = {NONE, 3, 0, 0};
        for (int s = 0; s < 4; s++) {
            CHECK.due("hangs(" + s + ")", x.hangs(s), due[s]);
        }
        CHECK.due("tree", x.tree(), 5);
    }

    /** "is hung to the nearest of these (of like ones the least)" */
    private static void treeOfLikeOnesHangsToTheLeast() {
        HeaveSongs x = new HeaveSongs();
        Check.song(x, "1111");
        Check.song(x, "1113");
        Check.song(x, "2111");
        Check.song(x, "2113");
        // 1 and 2 are one from 0, 3 is one from 1 and from 2.
        CHECK.due("hangs(1)", x.hangs(1), 0);
        CHECK.due("hangs(2)", x.hangs(2), 0);
        CHECK.due("hangs(3)", x.hangs(3), 1);
        CHECK.due("tree", x.tree(), 3);
    }

    private static void countIs0To8() {
        HeaveSongs x = Made.some();
        int[] due = {2, 3, 5, 9, 2, 3, 2, 3, 2};
        for (int what = 0; what <= 8; what++) {
            CHECK.due("count(" + what + ")", x.count(what), due[what]);
        }
        CHECK.due("count(-1)", x.count(-1), BAD);
        CHECK.due("count(9)", x.count(9), BAD);
        CHECK.due("count least", x.count(Integer.MIN_VALUE), BAD);
        CHECK.due("count most", x.count(Integer.MAX_VALUE), BAD);
    }

    private static void countOfAllAtTheirMost() {
        HeaveSongs x = most();
        int[] due = {6, 10, 1023, 100, 4, 12, 60, 24, 300};
        for (int what = 0; what <= 8; what++) {
            CHECK.due("at most, count(" + what + ")", x.count(what), due[what]);
        }
    }

    private static void countOfTheCrewIsTheSet() {
        HeaveSongs x = Made.tireless(10, 10);
        for (int set : new int[] {0, 1, 2, 3, 512, 1023}) {
            x.crew(set);
            CHECK.due("count(2)", x.count(2), set);
        }
    }

    /** All there may be: 6 songs of 36 beats, 10 hands, a haul of 300 beats, 4 tasks, 12 words, 60 marks, 24 beats. */
    private static HeaveSongs most() {
        HeaveSongs x = Made.tireless(10, 100);
        for (int s = 0; s < 6; s++) {
            Check.song(x, Made.times("2", 24), Made.times("1", 12));
        }
        x.haul(0, 3000, 999, 50);
        x.floor(100);
        for (int i = 0; i < 4; i++) {
            x.task(3000, 1000, 50);
        }
        for (int w = 0; w < 12; w++) {
            x.word(5, 31);
        }
        for (int m = 0; m < 60; m++) {
            x.mark(299, 5000);
        }
        Check.beats(x, Made.times("3", 24));
        return x;
    }

    private static List<Integer> allOfMost() {
        List<Integer> all = new ArrayList<>(List.of(6, 10, 1023, 100, 4, 12, 60, 24, 300));
        many(all, 24, 3);
        for (int s = 0; s < 6; s++) {
            all.addAll(List.of(24, 12));
            many(all, 24, 2);
            many(all, 12, 1);
        }
        many(all, 10, 100, 0, 0, 0, 0, 100);
        // 1 above the load wins nothing.
        many(all, 300, 0);
        for (int t = 0; t < 300; t++) {
            all.add(t % 36 < 24 ? 1000 : 0);
        }
        many(all, 4, 3000, 1000, 50);
        many(all, 12, 5, 31);
        many(all, 60, 299, 5000);
        return all;
    }

    private static void many(List<Integer> all, int times, Integer... values) {
        for (int i = 0; i < times; i++) {
            all.addAll(List.of(values));
        }
    }

    /** "h = 283; then h = 31 h + v for each v", in a long. */
    private static void digestGoesRoundALong() {
        BigInteger h = withoutEnd(allOfMost());
        CHECK.holds("it is far beyond a long", h.bitLength() > 1000);
        CHECK.due("digest of all there may be", most().digest(), h.longValue());
    }

    private static void digestBeatByBeatOverTheEdge() {
        CHECK.due("of nothing it is within", new HeaveSongs().digest(), 7482413071469893L);
        boolean isBelow0 = false;
        for (int n = 0; n <= 24; n++) {
            HeaveSongs x = new HeaveSongs();
            Check.beats(x, Made.times("3", n));
            List<Integer> all = new ArrayList<>(List.of(0, 0, 0, 0, 0, 0, 0, n, 0));
            many(all, n, 3);
            CHECK.due("digest of " + n + " beats in the row", x.digest(), withoutEnd(all).longValue());
            isBelow0 |= x.digest() < 0;
        }
        CHECK.holds("it goes below 0 as well", isBelow0);
    }

    private static BigInteger withoutEnd(List<Integer> all) {
        BigInteger h = BigInteger.valueOf(283);
        for (int v : all) {
            h = h.multiply(BigInteger.valueOf(31)).add(BigInteger.valueOf(v));
        }
        return h;
    }

    private static void digestTakesWhatIsThereAlone() {
        HeaveSongs x = Made.some();
        long was = x.digest();
        x.rest();
        CHECK.holds("another row", x.digest() != was);
        Check.beats(x, "312");
        CHECK.due("the same row again", x.digest(), was);
        x.mark(7, 7);
        CHECK.holds("another mark", x.digest() != was);
        x.wipe();
        x.mark(1, 15);
        x.mark(4, 20);
        CHECK.due("the same marks again", x.digest(), was);
        x.floor(x.floor(50));
        x.crew(x.crew(0));
        x.late(1, x.late(1, 0));
        CHECK.due("set and set back", x.digest(), was);
        x.wipe();
        x.mark(4, 20);
        x.mark(1, 15);
        CHECK.holds("marks in another order", x.digest() != was);
    }

    private static void digestDoesNotTakeThePause() {
        HeaveSongs x = Made.some();
        long was = x.digest();
        x.between(50);
        CHECK.due("PAUSE is not told", x.digest(), was);
    }

    private static void askingChangesNothing() {
        Twins.unchanged(CHECK, "apart", Made::full, x -> x.apart(5, 3), Made.full().apart(5, 3));
        Twins.unchanged(CHECK, "hangs", Made::full, x -> x.hangs(5), Made.full().hangs(5));
        Twins.unchanged(CHECK, "tree", Made::full, HeaveSongs::tree, Made.full().tree());
        Twins.unchanged(CHECK, "count", Made::full, x -> x.count(8), Made.full().count(8));
        Twins.unchanged(CHECK, "digest", Made::full, HeaveSongs::digest, Made.full().digest());
        Twins.unchanged(CHECK, "lines", Made::full, x -> x.lines(2), Made.full().lines(2));
        Twins.unchanged(CHECK, "lineAt", Made::full, x -> x.lineAt(5, 2, 1), Made.full().lineAt(5, 2, 1));
        Twins.unchanged(CHECK, "near", Made::full, x -> x.near(5), Made.full().near(5));
        Twins.unchanged(CHECK, "nearAt", Made::full, x -> x.nearAt(5, 1), Made.full().nearAt(5, 1));
        Twins.unchanged(CHECK, "beatAt", Made::full, x -> x.beatAt(5, 1000), Made.full().beatAt(5, 1000));
        Twins.unchanged(CHECK, "won", Made::full, x -> x.won(1), Made.full().won(1));
        Twins.unchanged(CHECK, "force", Made::full, x -> x.force(1), Made.full().force(1));
        Twins.unchanged(CHECK, "now", Made::full, x -> x.now(9), Made.full().now(9));
    }
}

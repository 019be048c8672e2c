/** Promises 30 to 34. */
public final class KinTest {
    private static final int NONE = -1, BAD = -2;
    private static final Check CHECK = new Check("KinTest");

    public static void main(String[] args) {
        promise30Apart();
        promise30Ends();
        promises31And32Tree();
        promises31And32LikeOnes();
        promise33Count();
        promise34Digest();
        CHECK.end();
    }

    private static void promise30Apart() {
        HeaveSongs x = new HeaveSongs();
        CHECK.due("apart without songs", x.apart(0, 0), BAD);
        Check.song(x, "1212");
        Check.song(x, "212");
        Check.song(x, "1312", "12");
        Check.song(x, "2121", "21");
        Check.song(x, "222222222222222222222222", "222222222222");
        Check.song(x, "111111111111111111111111", "333333333333");
        CHECK.due("taken out", x.apart(0, 1), 1);
        CHECK.due("put in", x.apart(1, 0), 1);
        CHECK.due("made another one, and a refrain", x.apart(0, 2), 3);
        CHECK.due("moved by one is two changes", x.apart(0, 3), 4);
        CHECK.due("refrains as well", x.apart(2, 3), 5);
        CHECK.due("long ones", x.apart(4, 5), 36);
        CHECK.due("long and short", x.apart(0, 4), 22 + 12);
        for (int s = 0; s < 6; s++) {
            CHECK.due("from itself", x.apart(s, s), 0);
            for (int r = 0; r < 6; r++) {
                CHECK.due("either way", x.apart(s, r), x.apart(r, s));
            }
        }
        CHECK.due("apart(-1, 0)", x.apart(-1, 0), BAD);
        CHECK.due("apart(0, -1)", x.apart(0, -1), BAD);
        CHECK.due("apart(6, 0)", x.apart(6, 0), BAD);
        CHECK.due("apart(0, 6)", x.apart(0, 6), BAD);
    }

    private static void promise30Ends() {
        HeaveSongs x = new HeaveSongs();
        Check.song(x, "13", "0");
        Check.song(x, "1", "021");
        Check.song(x, "213", "10");
        CHECK.due("taken out at the end, put in at the end", x.apart(0, 1), 1 + 2);
        CHECK.due("put in ahead", x.apart(0, 2), 1 + 1);
        CHECK.due("at both ends", x.apart(1, 2), 2 + 3);
    }

    private static void promises31And32Tree() {
        HeaveSongs x = new HeaveSongs();
        CHECK.due("hangs without songs", x.hangs(0), BAD);
        CHECK.due("tree without songs", x.tree(), 0);
        Check.song(x, "1111");
        CHECK.due("the first hangs to none", x.hangs(0), NONE);
        CHECK.due("tree of one", x.tree(), 0);
        Check.song(x, "2222");
        Check.song(x, "1112");
        Check.song(x, "1122");
        Check.song(x, "1222");
        // 0, then 2, 3, 4 and 1, a change each.
        CHECK.due("tree", x.tree(), 4);
        CHECK.due("hangs(0)", x.hangs(0), NONE);
        CHECK.due("hangs(1)", x.hangs(1), 4);
        CHECK.due("hangs(2)", x.hangs(2), 0);
        CHECK.due("hangs(3)", x.hangs(3), 2);
        CHECK.due("hangs(4)", x.hangs(4), 3);
        CHECK.due("hangs(5)", x.hangs(5), BAD);
        CHECK.due("hangs(-1)", x.hangs(-1), BAD);
        Check.beats(x, "333");
        x.refrain(2);
        // 2 is three more from all: 0, 3 (2), 4 (1), 1 (1), and 2 to 0 (4).
        CHECK.due("tree behind refrain", x.tree(), 8);
        CHECK.due("hangs(3) behind refrain", x.hangs(3), 0);
        CHECK.due("hangs(2) behind refrain", x.hangs(2), 0);
    }

    private static void promises31And32LikeOnes() {
        HeaveSongs x = new HeaveSongs();
        Check.song(x, "1100");
        Check.song(x, "1122");
        Check.song(x, "2200");
        Check.song(x, "2222");
        // 1 and 2 are two from 0 and four from one another; 3 is two from either: it hangs to 1.
        CHECK.due("hangs(1)", x.hangs(1), 0);
        CHECK.due("hangs(2)", x.hangs(2), 0);
        CHECK.due("of like ones the least", x.hangs(3), 1);
        CHECK.due("tree", x.tree(), 6);
        HeaveSongs y = new HeaveSongs();
        Check.song(y, "0000");
        Check.song(y, "0011");
        Check.song(y, "1111");
        Check.song(y, "1100");
        // 1 and 3 are two from 0; 1 comes first, so 2 (two from 1 and from 3) comes ahead of 3.
        CHECK.due("of like ones the least number", x.count(0), 4);
        CHECK.due("hangs(2)", y.hangs(2), 1);
        CHECK.due("hangs(3)", y.hangs(3), 0);
        CHECK.due("tree", y.tree(), 6);
    }

    private static void promise33Count() {
        HeaveSongs x = filled();
        int[] due = {2, 3, 5, 9, 1, 2, 3, 2, 2};
        for (int what = 0; what <= 8; what++) {
            CHECK.due("count(" + what + ")", x.count(what), due[what]);
        }
        CHECK.due("count(-1)", x.count(-1), BAD);
        CHECK.due("count(9)", x.count(9), BAD);
    }

    private static HeaveSongs filled() {
        HeaveSongs x = new HeaveSongs();
        Check.song(x, "12", "3");
        Check.song(x, "2");
        x.hand(100, 30, 1, 2);
        x.hand(70, 3, 2, 4);
        x.hand(60, 4, 3, 5);
        x.late(1, 2);
        x.crew(5);
        x.floor(9);
        x.haul(0, 10, 20, 3);
        x.task(30, 40, 5);
        x.between(11);
        x.word(3, 6);
        x.word(1, 0);
        x.mark(17, 20);
        x.mark(3, 4);
        x.mark(17, 21);
        Check.beats(x, "31");
        return x;
    }

    private static void promise34Digest() {
        HeaveSongs x = filled();
        long[] due = {
            2, 3, 5, 9, 1, 2, 3, 2, 2,
            3, 1,
            2, 1, 1, 2, 3, 1, 0, 2,
            100, 30, 1, 2, 0, 70, 70, 3, 2, 4, 2, 70, 60, 4, 3, 5, 0, 56,
            0, 14, 0, 160,
            30, 40, 5,
            3, 6, 1, 0,
            17, 20, 3, 4, 17, 21};
        long h = 283;
        for (long v : due) {
            h = 31 * h + v;
        }
        CHECK.due("digest", x.digest(), h);
        CHECK.due("digest changes nothing", x.digest(), h);
        x.plan();
        x.best(0, 0, 2, 0);
        x.lineAt(0, 0, 0);
        x.nearAt(0, 0);
        x.who(0, 0, 0, 0);
        x.two(0, 0, 0, 0);
        x.tree();
        CHECK.due("asking changes nothing", x.digest(), h);
        x.hand(101, 0, 0, 0);
        x.haul(2, 1, 0, 0);
        x.song();
        CHECK.holds("a new song changes it", x.digest() != h);
    }
}

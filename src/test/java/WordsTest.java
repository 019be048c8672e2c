/** Promises 21 to 25. */
public final class WordsTest {
    private static final int NONE = -1, BAD = -2, FULL = -4;
    private static final long MANY = 1000000000000000L;
    private static final Check CHECK = new Check("WordsTest");

    public static void main(String[] args) {
        promise21Word();
        promise22Refusals();
        promise22StrongAndWeak();
        promise22RestsAndBreaths();
        promises22And23Many();
        promise23LineAt();
        promises24And25Near();
        CHECK.end();
    }

    private static void promise21Word() {
        HeaveSongs x = new HeaveSongs();
        int[][] bad = {{0, 0}, {-1, 0}, {6, 0}, {32, 0}, {1, 2}, {1, -1}, {5, 32}, {5, -1}, {2, 4}};
        for (int[] b : bad) {
            CHECK.due("a bad word", x.word(b[0], b[1]), BAD);
        }
        CHECK.due("no word", x.count(5), 0);
        for (int w = 0; w < 12; w++) {
            CHECK.due("word " + w, x.word(5, 31 - w % 2), w);
        }
        CHECK.due("word 13", x.word(1, 0), FULL);
        CHECK.due("BAD comes ahead of FULL", x.word(1, 2), BAD);
        CHECK.due("words", x.count(5), 12);
    }

    private static void promise22Refusals() {
        HeaveSongs x = new HeaveSongs();
        CHECK.due("lines without songs", x.lines(0), BAD);
        CHECK.due("lineAt without songs", x.lineAt(0, 0, 0), BAD);
        CHECK.due("near without songs", x.near(0), BAD);
        CHECK.due("nearAt without songs", x.nearAt(0, 0), BAD);
        Check.song(x, "1");
        x.word(1, 0);
        for (int song = -1; song <= 1; song += 2) {
            CHECK.due("lines", x.lines(song), BAD);
            CHECK.due("lineAt", x.lineAt(song, 0, 0), BAD);
            CHECK.due("near", x.near(song), BAD);
            CHECK.due("nearAt", x.nearAt(song, 0), BAD);
        }
        CHECK.due("lineAt, i below 0", x.lineAt(0, -1, 0), BAD);
        CHECK.due("lineAt, i far below 0", x.lineAt(0, Long.MIN_VALUE, 0), BAD);
        CHECK.due("lineAt, k below 0", x.lineAt(0, 0, -1), BAD);
        CHECK.due("nearAt, k below 0", x.nearAt(0, -1), BAD);
    }

    private static void promise22StrongAndWeak() {
        HeaveSongs x = new HeaveSongs();
        Check.song(x, "211");
        Check.song(x, "112");
        Check.song(x, "2112");
        Check.song(x, "211211", "1");
        CHECK.due("no words", x.lines(0), 0);
        x.word(3, 4);
        CHECK.due("the first sound is the highest bit", x.lines(0), 1);
        CHECK.due("strong on a WORD", x.lines(1), 0);
        CHECK.due("a beat too many", x.lines(2), 0);
        CHECK.due("the verse alone, twice the word", x.lines(3), 1);
        x.word(1, 1);
        CHECK.due("strong on the last", x.lines(2), 1);
        x.word(1, 1);
        CHECK.due("like words are two", x.lines(2), 2);
        x.word(2, 0);
        CHECK.due("by strong and weak weak", x.lines(0), 3);
        CHECK.due("weak weak, strong", x.lines(1), 2);
    }

    private static void promise22RestsAndBreaths() {
        HeaveSongs x = new HeaveSongs();
        Check.song(x, "201");
        Check.song(x, "231");
        Check.song(x, "0213");
        Check.song(x, "03300");
        CHECK.due("no such beats: one line of no words", x.lines(3), 1);
        CHECK.due("it has no words", x.lineAt(3, 0, 0), NONE);
        CHECK.due("there is no other", x.lineAt(3, 1, 0), NONE);
        CHECK.due("nothing is wrong in it", x.near(3), 0);
        CHECK.due("it has no words", x.nearAt(3, 0), NONE);
        x.word(2, 2);
        CHECK.due("a rest between", x.lines(0), 0);
        CHECK.due("a breath between", x.lines(1), 0);
        CHECK.due("near: a rest between", x.near(0), NONE);
        CHECK.due("near: a breath between", x.near(1), NONE);
        CHECK.due("nearAt: no line", x.nearAt(1, 0), NONE);
        CHECK.due("rest ahead, breath behind", x.lines(2), 1);
        x.word(1, 1);
        x.word(1, 0);
        CHECK.due("words by themselves", x.lines(0), 1);
        CHECK.due("words by themselves", x.lines(1), 1);
        CHECK.due("both ways", x.lines(2), 2);
        CHECK.due("word behind the rest", x.lineAt(0, 0, 1), 2);
        CHECK.due("still one", x.lines(3), 1);
    }

    private static void promises22And23Many() {
        HeaveSongs x = new HeaveSongs();
        for (int w = 0; w < 10; w++) {
            x.word(1, 0);
        }
        Check.song(x, "11111111111111");
        Check.song(x, "111111111111111");
        Check.song(x, "1111111111111111");
        CHECK.due("10 to the 14", x.lines(0), MANY / 10);
        CHECK.due("10 to the 15", x.lines(1), MANY);
        CHECK.due("10 to the 16", x.lines(2), MANY);
        long last = 987654321012345L;
        for (int k = 14; k >= 0; k--) {
            CHECK.due("digits are words", x.lineAt(1, last, k), last / power(14 - k) % 10);
            CHECK.due("digits are words", x.lineAt(2, last, k + 1), last / power(14 - k) % 10);
        }
        CHECK.due("the last", x.lineAt(1, MANY - 1, 14), 9);
        CHECK.due("the last that is counted", x.lineAt(2, MANY - 1, 15), 9);
        CHECK.due("it begins with 0", x.lineAt(2, MANY - 1, 0), 0);
        CHECK.due("no line", x.lineAt(1, MANY, 0), NONE);
        CHECK.due("not so many are counted", x.lineAt(2, MANY, 0), NONE);
        CHECK.due("far", x.lineAt(2, Long.MAX_VALUE, 0), NONE);
        CHECK.due("no word 15", x.lineAt(1, 0, 15), NONE);
        CHECK.due("no word far", x.lineAt(1, 0, Integer.MAX_VALUE), NONE);
        x.word(5, 0);
        x.word(5, 0);
        Check.song(x, "111111111111111111111111");
        CHECK.due("more yet", x.lines(3), MANY);
    }

    private static long power(int n) {
        return n == 0 ? 1 : 10 * power(n - 1);
    }

    private static void promise23LineAt() {
        HeaveSongs x = new HeaveSongs();
        Check.song(x, "1102");
        x.word(2, 0);
        x.word(1, 0);
        x.word(1, 1);
        x.word(1, 0);
        x.word(1, 1);
        int[][] due = {{0, 2}, {0, 4}, {1, 1, 2}, {1, 1, 4}, {1, 3, 2}, {1, 3, 4},
            {3, 1, 2}, {3, 1, 4}, {3, 3, 2}, {3, 3, 4}};
        CHECK.due("lines", x.lines(0), due.length);
        for (int i = 0; i < due.length; i++) {
            for (int k = 0; k < due[i].length; k++) {
                CHECK.due("lineAt(0, " + i + ", " + k + ")", x.lineAt(0, i, k), due[i][k]);
            }
            CHECK.due("behind line " + i, x.lineAt(0, i, due[i].length), NONE);
        }
        CHECK.due("no line", x.lineAt(0, due.length, 0), NONE);
    }

    private static void promises24And25Near() {
        HeaveSongs x = new HeaveSongs();
        Check.song(x, "212", "2");
        CHECK.due("no words", x.near(0), NONE);
        CHECK.due("no words", x.nearAt(0, 0), NONE);
        x.word(2, 0);
        CHECK.due("does not fit", x.near(0), NONE);
        x.word(1, 0);
        // weak weak + weak: both strong ones are wrong.
        near(x, 2, 0, 1);
        x.word(2, 3);
        // strong strong + weak: two wrong as well, weak weak + weak comes first.
        near(x, 2, 0, 1);
        x.word(1, 1);
        // strong, weak, strong: none wrong.
        near(x, 0, 3, 1, 3);
        CHECK.due("a line without wrongs", x.lines(0), 1);
        HeaveSongs y = new HeaveSongs();
        Check.song(y, "1212");
        y.word(2, 2);
        y.word(2, 3);
        y.word(2, 0);
        y.word(1, 0);
        // weak, strong weak, weak: the last one is wrong.
        near(y, 1, 3, 0, 3);
        y.word(3, 4);
        // weak, strong weak weak has one wrong, too, but comes behind it.
        near(y, 1, 3, 0, 3);
        y.word(3, 5);
        // weak, then strong weak strong: none wrong.
        near(y, 0, 3, 5);
        Check.song(y, "2012");
        // What was found for one song must not show in another: a long one, a short one, the long one.
        HeaveSongs z = new HeaveSongs();
        Check.song(z, "222222222222222222222222");
        Check.song(z, "1203");
        Check.song(z, "20");
        z.word(1, 0);
        z.word(3, 7);
        CHECK.due("24 beats, strong by threes", z.near(0), 0);
        CHECK.due("its last word", z.nearAt(0, 7), 1);
        CHECK.due("its end", z.nearAt(0, 8), NONE);
        nearOf(z, 1, 1, 0, 0);
        nearOf(z, 2, 1, 0);
        CHECK.due("24 beats again", z.near(0), 0);
        z.word(5, 0);
        CHECK.due("24 beats, as ever", z.near(0), 0);
        // weak is the only one for the first PULL; then strong strong comes ahead of weak weak.
        nearOf(y, 1, 2, 3, 1);
    }

    private static void near(HeaveSongs x, int wrong, int... line) {
        nearOf(x, 0, wrong, line);
    }

    private static void nearOf(HeaveSongs x, int song, int wrong, int... line) {
        CHECK.due("near", x.near(song), wrong);
        for (int k = 0; k < line.length; k++) {
            CHECK.due("nearAt(" + song + ", " + k + ")", x.nearAt(song, k), line[k]);
        }
        CHECK.due("behind the near line", x.nearAt(song, line.length), NONE);
    }
}

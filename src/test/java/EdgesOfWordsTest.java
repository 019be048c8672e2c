/** The edges that the document names in promises 21 to 25: words, lines, and lines that are near. */
public final class EdgesOfWordsTest {
    private static final int NONE = -1, BAD = -2, FULL = -4;
    private static final long MANY = 1000000000000000L;
    private static final Check CHECK = new Check("EdgesOfWordsTest");

    public static void main(String[] args) {
        soundsAre1To5();
        bitsAreOfSoManySounds();
        theFirstSoundIsHighest();
        wordsAre0To11();
        thirteenthWordChangesNothing();
        linesAreOfSongsThere();
        noWordsNoLines();
        verseWithoutSuchBeats();
        wordAsLongAsTheVerse();
        wordLongerThanTheVerse();
        wordOfFiveBetweenRests();
        noWordGoesOnInTheRefrain();
        linesUpToTheMost();
        linesBeyondTheMost();
        linesBeyondALong();
        manyBehindABeatThatNoneFits();
        lineAtFromTheFirstToTheLast();
        lineAtTheLastThatIsCounted();
        lineAtOfNumbersBeyondAnInt();
        wordAtTheLinesEnd();
        lineOf24Words();
        lineOfOneWord();
        nearIsNoneWithoutALine();
        nearOfNoneWrong();
        nearOfAllWrong();
        nearIsTheFirstOfLikeOnes();
        nearAtTheLinesEnd();
        nearFollowsNewWords();
        CHECK.end();
    }

    /** "have 1 .. 5 SOUNDS" */
    private static void soundsAre1To5() {
        HeaveSongs x = new HeaveSongs();
        CHECK.due("word(0, 0)", x.word(0, 0), BAD);
        CHECK.due("word(-1, 0)", x.word(-1, 0), BAD);
        CHECK.due("word(6, 0)", x.word(6, 0), BAD);
        CHECK.due("no word", x.count(5), 0);
        for (int n = 1; n <= 5; n++) {
            CHECK.due("word(" + n + ", 0)", x.word(n, 0), n - 1);
            Check.song(x, Made.times("1", n));
        }
        // So many rows of 1 .. n that are n together: 1, 2, 4, 8, 16.
        for (int n = 1; n <= 5; n++) {
            CHECK.due("lines of " + n, x.lines(n - 1), 1 << (n - 1));
        }
    }

    /** "BAD: also bits that are not n SOUNDS" */
    private static void bitsAreOfSoManySounds() {
        for (int n = 1; n <= 5; n++) {
            HeaveSongs x = new HeaveSongs();
            CHECK.due("word(" + n + ", -1)", x.word(n, -1), BAD);
            CHECK.due("word(" + n + ", 0)", x.word(n, 0), 0);
            CHECK.due("word(" + n + ", all strong)", x.word(n, (1 << n) - 1), 1);
            CHECK.due("word(" + n + ", one more)", x.word(n, 1 << n), BAD);
            CHECK.due("words", x.count(5), 2);
            Check.song(x, Made.times("2", n));
            CHECK.due("all strong", x.lineAt(0, 0, 0), 1);
        }
        HeaveSongs y = new HeaveSongs();
        CHECK.due("no SOUNDS, no bits", y.word(0, 0), BAD);
        CHECK.due("bits of many SOUNDS", y.word(6, 63), BAD);
        CHECK.due("bits alone are bad", y.word(1, Integer.MIN_VALUE), BAD);
        CHECK.due("bits alone are bad", y.word(1, Integer.MAX_VALUE), BAD);
    }

    /** "bits, the first one highest" */
    private static void theFirstSoundIsHighest() {
        for (int sound = 0; sound < 5; sound++) {
            HeaveSongs x = new HeaveSongs();
            x.word(5, 16 >> sound);
            Check.song(x, Made.times("1", sound) + "2" + Made.times("1", 4 - sound));
            CHECK.due("strong in sound " + sound, x.lines(0), 1);
            CHECK.due("none wrong", x.near(0), 0);
        }
    }

    /** "WORDS 0 .. 11"; "FULL: 12." */
    private static void wordsAre0To11() {
        HeaveSongs x = new HeaveSongs();
        Check.song(x, "1");
        for (int w = 0; w < 12; w++) {
            CHECK.due("lines by " + w, x.lines(0), w);
            CHECK.due("word " + w, x.word(1, 0), w);
            CHECK.due("words", x.count(5), w + 1);
        }
        CHECK.due("the thirteenth", x.word(1, 0), FULL);
        CHECK.due("still twelve", x.count(5), 12);
        CHECK.due("lines by 12", x.lines(0), 12);
        CHECK.due("the last word", x.lineAt(0, 11, 0), 11);
        CHECK.due("no thirteenth", x.lineAt(0, 12, 0), NONE);
    }

    private static void thirteenthWordChangesNothing() {
        HeaveSongs x = new HeaveSongs();
        for (int w = 0; w < 12; w++) {
            x.word(5, 31);
        }
        Check.song(x, "1");
        long was = x.digest();
        CHECK.due("the thirteenth", x.word(1, 0), FULL);
        CHECK.due("a bad thirteenth", x.word(1, 2), BAD);
        CHECK.due("it is not sung", x.lines(0), 0);
        CHECK.due("nor near", x.near(0), NONE);
        CHECK.due("nothing has changed", x.digest(), was);
    }

    private static void linesAreOfSongsThere() {
        HeaveSongs x = new HeaveSongs();
        x.word(1, 0);
        for (int s = 0; s < 6; s++) {
            CHECK.due("lines(" + s + "): not there yet", x.lines(s), BAD);
            CHECK.due("lineAt(" + s + ", ..): not there yet", x.lineAt(s, 0, 0), BAD);
            CHECK.due("near(" + s + "): not there yet", x.near(s), BAD);
            CHECK.due("nearAt(" + s + ", ..): not there yet", x.nearAt(s, 0), BAD);
            Check.song(x, "1");
            CHECK.due("lines(" + s + ")", x.lines(s), 1);
            CHECK.due("lineAt(" + s + ", ..)", x.lineAt(s, 0, 0), 0);
            CHECK.due("near(" + s + ")", x.near(s), 0);
            CHECK.due("nearAt(" + s + ", ..)", x.nearAt(s, 0), 0);
        }
        for (int s : new int[] {-1, 6}) {
            CHECK.due("lines(" + s + ")", x.lines(s), BAD);
            CHECK.due("lineAt(" + s + ", ..)", x.lineAt(s, 0, 0), BAD);
            CHECK.due("near(" + s + ")", x.near(s), BAD);
            CHECK.due("nearAt(" + s + ", ..)", x.nearAt(s, 0), BAD);
        }
    }

    private static void noWordsNoLines() {
        for (String verse : new String[] {"1", "2", "01", "32", Made.times("12", 12)}) {
            HeaveSongs x = new HeaveSongs();
            Check.song(x, verse);
            CHECK.due("lines of " + verse, x.lines(0), 0);
            CHECK.due("lineAt", x.lineAt(0, 0, 0), NONE);
            CHECK.due("near", x.near(0), NONE);
            CHECK.due("nearAt", x.nearAt(0, 0), NONE);
        }
    }

    /** "(Of a VERSE without such BEATS one, of no WORDS.)" */
    private static void verseWithoutSuchBeats() {
        for (String verse : new String[] {"0", "3", "03", "30", Made.times("0", 24), Made.times("3", 24)}) {
            HeaveSongs x = new HeaveSongs();
            Check.song(x, verse, "12");
            for (int words = 0; words <= 1; words++) {
                CHECK.due("lines of " + verse, x.lines(0), 1);
                CHECK.due("it has no words", x.lineAt(0, 0, 0), NONE);
                CHECK.due("there is no second", x.lineAt(0, 1, 0), NONE);
                CHECK.due("k below 0", x.lineAt(0, 0, -1), BAD);
                CHECK.due("nothing is wrong", x.near(0), 0);
                CHECK.due("it has no words", x.nearAt(0, 0), NONE);
                CHECK.due("k below 0", x.nearAt(0, -1), BAD);
                x.word(1, 0);
            }
        }
    }

    private static void wordAsLongAsTheVerse() {
        HeaveSongs x = new HeaveSongs();
        x.word(5, 21);
        Check.song(x, "21212");
        CHECK.due("lines", x.lines(0), 1);
        CHECK.due("near", x.near(0), 0);
        Check.song(x, Made.times("21212", 4));
        CHECK.due("four of them, 20 beats", x.lines(1), 1);
        CHECK.due("the last", x.lineAt(1, 0, 3), 0);
        CHECK.due("no more", x.lineAt(1, 0, 4), NONE);
    }

    private static void wordLongerThanTheVerse() {
        for (int n = 1; n <= 4; n++) {
            HeaveSongs x = new HeaveSongs();
            x.word(5, 0);
            Check.song(x, Made.times("1", n), Made.times("1", 5 - n));
            CHECK.due("five on " + n, x.lines(0), 0);
            CHECK.due("nor near", x.near(0), NONE);
        }
        HeaveSongs y = new HeaveSongs();
        y.word(5, 0);
        Check.song(y, Made.times("1", 24));
        CHECK.due("24 are not fives", y.lines(0), 0);
        CHECK.due("nor near", y.near(0), NONE);
        y.word(4, 0);
        CHECK.due("four fives and a four", y.lines(0), 5 + 1);
    }

    /** "no WORD has a REST or a BREATH between its SOUNDS" */
    private static void wordOfFiveBetweenRests() {
        for (String gap : new String[] {"0", "3"}) {
            for (int at = 1; at <= 4; at++) {
                HeaveSongs x = new HeaveSongs();
                x.word(5, 0);
                Check.song(x, Made.times("1", at) + gap + Made.times("1", 5 - at));
                CHECK.due("a " + gap + " behind " + at, x.lines(0), 0);
                CHECK.due("near as well", x.near(0), NONE);
                CHECK.due("near as well", x.nearAt(0, 0), NONE);
            }
            HeaveSongs y = new HeaveSongs();
            y.word(5, 0);
            Check.song(y, gap + "11111" + gap + gap + "11111" + gap);
            CHECK.due("ahead of it and behind it", y.lines(0), 1);
            CHECK.due("two words", y.lineAt(0, 0, 1), 0);
            CHECK.due("near", y.near(0), 0);
        }
    }

    /** "A LINE for a SONG's VERSE" */
    private static void noWordGoesOnInTheRefrain() {
        HeaveSongs x = new HeaveSongs();
        x.word(2, 0);
        Check.song(x, "1", "1");
        CHECK.due("the verse alone", x.lines(0), 0);
        Check.song(x, "11", "1");
        CHECK.due("the verse alone", x.lines(1), 1);
        CHECK.due("near", x.near(0), NONE);
        CHECK.due("near", x.near(1), 0);
    }

    private static HeaveSongs weak(int words) {
        HeaveSongs x = new HeaveSongs();
        for (int w = 0; w < words; w++) {
            x.word(1, 0);
        }
        return x;
    }

    /** "How many LINES there are (1000000000000000, if there are more)" */
    private static void linesUpToTheMost() {
        HeaveSongs x = weak(10);
        Check.song(x, Made.times("1", 15));
        CHECK.due("just so many", x.lines(0), MANY);
        HeaveSongs y = weak(11);
        Check.song(y, Made.times("1", 14));
        CHECK.due("11 to the 14", y.lines(0), 379749833583241L);
        HeaveSongs z = weak(12);
        Check.song(z, Made.times("1", 13));
        CHECK.due("12 to the 13", z.lines(0), 106993205379072L);
        // Nine weak and three strong ones: 9 to the 15, by 3, by 3 are more; by 3 alone fewer.
        HeaveSongs mixed = weak(9);
        for (int w = 0; w < 3; w++) {
            mixed.word(1, 1);
        }
        Check.song(mixed, Made.times("1", 15) + "2");
        Check.song(mixed, Made.times("1", 15) + "22");
        CHECK.due("617673396283947", mixed.lines(0), 617673396283947L);
        CHECK.due("1853020188851841 are more", mixed.lines(1), MANY);
    }

    private static void linesBeyondTheMost() {
        HeaveSongs x = weak(10);
        x.word(2, 0);
        Check.song(x, Made.times("1", 15));
        CHECK.due("a few more", x.lines(0), MANY);
        HeaveSongs y = weak(11);
        Check.song(y, Made.times("1", 15));
        CHECK.due("11 to the 15", y.lines(0), MANY);
        HeaveSongs z = weak(12);
        Check.song(z, Made.times("1", 14));
        CHECK.due("12 to the 14", z.lines(0), MANY);
    }

    private static void linesBeyondALong() {
        // 12 to the 18 is beyond a long; by 12 to the 24 one would have gone round it many times.
        for (int n = 14; n <= 24; n++) {
            HeaveSongs x = weak(12);
            Check.song(x, Made.times("1", n));
            CHECK.due("12 to the " + n, x.lines(0), MANY);
        }
        HeaveSongs y = weak(4);
        Check.song(y, Made.times("1", 24));
        CHECK.due("4 to the 24", y.lines(0), 1L << 48);
        HeaveSongs z = weak(8);
        Check.song(z, Made.times("1", 22));
        CHECK.due("2 to the 66 is not 0", z.lines(0), MANY);
    }

    private static void manyBehindABeatThatNoneFits() {
        HeaveSongs x = weak(12);
        Check.song(x, "2" + Made.times("1", 23));
        Check.song(x, Made.times("1", 23) + "2");
        Check.song(x, Made.times("1", 23) + "0");
        CHECK.due("none begins", x.lines(0), 0);
        CHECK.due("none begins", x.lineAt(0, 0, 0), NONE);
        CHECK.due("none ends", x.lines(1), 0);
        CHECK.due("a REST ends them all", x.lines(2), MANY);
    }

    /** "WORD k of the i-th LINE. NONE: not so many (LINES, WORDS)." */
    private static void lineAtFromTheFirstToTheLast() {
        HeaveSongs x = weak(2);
        Check.song(x, "11");
        CHECK.due("lines", x.lines(0), 4);
        CHECK.due("i = -1", x.lineAt(0, -1, 0), BAD);
        int[][] due = {{0, 0}, {0, 1}, {1, 0}, {1, 1}};
        for (int i = 0; i < 4; i++) {
            CHECK.due("line " + i + ", word 0", x.lineAt(0, i, 0), due[i][0]);
            CHECK.due("line " + i + ", word 1", x.lineAt(0, i, 1), due[i][1]);
            CHECK.due("line " + i + ", word 2", x.lineAt(0, i, 2), NONE);
            CHECK.due("line " + i + ", word -1", x.lineAt(0, i, -1), BAD);
        }
        CHECK.due("i = 4", x.lineAt(0, 4, 0), NONE);
        CHECK.due("i = 4, word 2", x.lineAt(0, 4, 2), NONE);
        CHECK.due("i = 4, word -1", x.lineAt(0, 4, -1), BAD);
    }

    private static void lineAtTheLastThatIsCounted() {
        HeaveSongs x = weak(10);
        Check.song(x, Made.times("1", 15));
        Check.song(x, Made.times("1", 24));
        CHECK.due("the last of all", x.lineAt(0, MANY - 1, 0), 9);
        CHECK.due("its last word", x.lineAt(0, MANY - 1, 14), 9);
        CHECK.due("no more", x.lineAt(0, MANY, 0), NONE);
        CHECK.due("the last that is counted, of more", x.lineAt(1, MANY - 1, 8), 0);
        CHECK.due("from its word 9 on", x.lineAt(1, MANY - 1, 9), 9);
        CHECK.due("no more are counted", x.lineAt(1, MANY, 0), NONE);
        CHECK.due("far", x.lineAt(1, Long.MAX_VALUE, 0), NONE);
    }

    private static void lineAtOfNumbersBeyondAnInt() {
        HeaveSongs x = weak(2);
        Check.song(x, "1");
        // Cut to an int these would be 0 and 1.
        CHECK.due("i = 2 to the 32", x.lineAt(0, 1L << 32, 0), NONE);
        CHECK.due("i = 2 to the 32 and 1", x.lineAt(0, (1L << 32) + 1, 0), NONE);
        CHECK.due("i = - 2 to the 32", x.lineAt(0, -(1L << 32), 0), BAD);
        CHECK.due("i least", x.lineAt(0, Long.MIN_VALUE, 0), BAD);
        CHECK.due("i most", x.lineAt(0, Long.MAX_VALUE, 0), NONE);
        CHECK.due("k most", x.lineAt(0, 0, Integer.MAX_VALUE), NONE);
        CHECK.due("k least", x.lineAt(0, 0, Integer.MIN_VALUE), BAD);
        HeaveSongs y = weak(2);
        Check.song(y, Made.times("1", 24));
        CHECK.due("the last of 2 to the 24", y.lineAt(0, (1L << 24) - 1, 0), 1);
        CHECK.due("one more", y.lineAt(0, 1L << 24, 0), NONE);
    }

    private static void wordAtTheLinesEnd() {
        HeaveSongs x = new HeaveSongs();
        x.word(1, 0);
        x.word(3, 0);
        Check.song(x, "111");
        CHECK.due("three words: the last", x.lineAt(0, 0, 2), 0);
        CHECK.due("three words: no fourth", x.lineAt(0, 0, 3), NONE);
        CHECK.due("one word", x.lineAt(0, 1, 0), 1);
        CHECK.due("one word: no second", x.lineAt(0, 1, 1), NONE);
    }

    private static void lineOf24Words() {
        HeaveSongs x = new HeaveSongs();
        x.word(1, 1);
        x.word(1, 0);
        Check.song(x, Made.times("21", 12));
        CHECK.due("lines", x.lines(0), 1);
        for (int k = 0; k < 24; k++) {
            CHECK.due("word " + k, x.lineAt(0, 0, k), k % 2);
            CHECK.due("near word " + k, x.nearAt(0, k), k % 2);
        }
        CHECK.due("word 24", x.lineAt(0, 0, 24), NONE);
        CHECK.due("near word 24", x.nearAt(0, 24), NONE);
    }

    private static void lineOfOneWord() {
        HeaveSongs x = new HeaveSongs();
        x.word(1, 1);
        Check.song(x, "2");
        Check.song(x, "1");
        CHECK.due("lines", x.lines(0), 1);
        CHECK.due("its word", x.lineAt(0, 0, 0), 0);
        CHECK.due("no second", x.lineAt(0, 0, 1), NONE);
        CHECK.due("strong on a WORD is no line", x.lines(1), 0);
        CHECK.due("but near", x.near(1), 1);
        CHECK.due("its word", x.nearAt(1, 0), 0);
    }

    /** "NONE: no LINE at all." */
    private static void nearIsNoneWithoutALine() {
        HeaveSongs x = new HeaveSongs();
        x.word(2, 0);
        Check.song(x, "1");
        Check.song(x, "11");
        Check.song(x, "111");
        Check.song(x, "1101");
        int[] due = {NONE, 0, NONE, NONE};
        for (int s = 0; s < 4; s++) {
            CHECK.due("near(" + s + ")", x.near(s), due[s]);
            CHECK.due("nearAt(" + s + ", 0)", x.nearAt(s, 0), due[s]);
        }
    }

    private static void nearOfNoneWrong() {
        HeaveSongs x = new HeaveSongs();
        x.word(1, 0);
        x.word(1, 1);
        Check.song(x, Made.times("12", 12));
        CHECK.due("0 of 24", x.near(0), 0);
        CHECK.due("word 23", x.nearAt(0, 23), 1);
    }

    private static void nearOfAllWrong() {
        HeaveSongs x = new HeaveSongs();
        x.word(1, 0);
        Check.song(x, Made.times("2", 24));
        Check.song(x, Made.times("2", 23) + "1");
        CHECK.due("24 of 24", x.near(0), 24);
        CHECK.due("word 23", x.nearAt(0, 23), 0);
        CHECK.due("word 24", x.nearAt(0, 24), NONE);
        CHECK.due("23 of 24", x.near(1), 23);
        HeaveSongs y = new HeaveSongs();
        y.word(5, 31);
        Check.song(y, Made.times("1", 20));
        CHECK.due("20 of 20", y.near(0), 20);
        CHECK.due("word 3", y.nearAt(0, 3), 0);
        CHECK.due("word 4", y.nearAt(0, 4), NONE);
    }

    /** "the first such LINE" */
    private static void nearIsTheFirstOfLikeOnes() {
        HeaveSongs x = new HeaveSongs();
        x.word(2, 3);
        x.word(1, 0);
        x.word(1, 0);
        x.word(2, 0);
        Check.song(x, "12");
        // 0: one wrong; 1 1, 1 2, 2 1, 2 2: one wrong; 3: one wrong.
        CHECK.due("one wrong", x.near(0), 1);
        CHECK.due("the first", x.nearAt(0, 0), 0);
        CHECK.due("it is one word", x.nearAt(0, 1), NONE);
        Check.song(x, "1112");
        // Three weak ones and a strong one: 1 1 1 1 is one wrong, 1 1 and 0 one wrong: 0 comes first.
        CHECK.due("one wrong", x.near(1), 1);
        int[] due = {1, 1, 0};
        for (int k = 0; k < 3; k++) {
            CHECK.due("word " + k, x.nearAt(1, k), due[k]);
        }
        CHECK.due("the end", x.nearAt(1, 3), NONE);
    }

    private static void nearAtTheLinesEnd() {
        HeaveSongs x = new HeaveSongs();
        x.word(2, 1);
        Check.song(x, "1212");
        CHECK.due("k = -1", x.nearAt(0, -1), BAD);
        CHECK.due("k = 0", x.nearAt(0, 0), 0);
        CHECK.due("k = 1", x.nearAt(0, 1), 0);
        CHECK.due("k = 2", x.nearAt(0, 2), NONE);
        CHECK.due("k most", x.nearAt(0, Integer.MAX_VALUE), NONE);
        CHECK.due("k least", x.nearAt(0, Integer.MIN_VALUE), BAD);
    }

    private static void nearFollowsNewWords() {
        HeaveSongs x = new HeaveSongs();
        Check.song(x, "212");
        CHECK.due("no words", x.near(0), NONE);
        x.word(3, 2);
        CHECK.due("all three wrong", x.near(0), 3);
        x.word(3, 7);
        CHECK.due("one wrong", x.near(0), 1);
        CHECK.due("by the new one", x.nearAt(0, 0), 1);
        x.word(3, 5);
        CHECK.due("none wrong", x.near(0), 0);
        CHECK.due("by the new one", x.nearAt(0, 0), 2);
        CHECK.due("it is a line", x.lineAt(0, 0, 0), 2);
    }
}

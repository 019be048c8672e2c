/** Objects that tests begin with; each is made by so few calls that most of its 512 are left. */
final class Made {
    private Made() {
    }

    static HeaveSongs nothing() {
        return new HeaveSongs();
    }

    /** Two songs, three hands, two tasks, three words, two marks, a haul, three beats in the row. */
    static HeaveSongs some() {
        HeaveSongs x = new HeaveSongs();
        Check.song(x, "12", "3");
        Check.song(x, "2");
        x.hand(100, 30, 1, 2);
        x.hand(70, 3, 2, 4);
        x.hand(60, 4, 3, 5);
        x.late(1, 2);
        x.haul(0, 10, 20, 3);
        x.crew(5);
        x.floor(9);
        x.task(7, 40, 5);
        x.task(3, 0, 1);
        x.between(11);
        x.word(1, 0);
        x.word(2, 1);
        x.word(1, 1);
        x.mark(1, 15);
        x.mark(4, 20);
        Check.beats(x, "312");
        return x;
    }

    /** As many of all as there may be, and a row that is full. */
    static HeaveSongs full() {
        HeaveSongs x = new HeaveSongs();
        Check.song(x, "12", "3");
        Check.song(x, "2");
        Check.song(x, "112", "20");
        Check.song(x, "2203");
        Check.song(x, "1");
        Check.song(x, "21321", "1");
        for (int h = 0; h < 10; h++) {
            x.hand(100 - h, h, 3, 5);
            x.late(h, h % 4);
        }
        x.haul(1, 200, 100, 1);
        x.crew(1007);
        x.floor(1);
        x.between(7);
        for (int i = 0; i < 4; i++) {
            x.task(20 + i, 100 * i, i);
        }
        for (int w = 0; w < 12; w++) {
            x.word(w % 2 + 1, w % 4 == 0 ? 0 : 1);
        }
        for (int m = 0; m < 60; m++) {
            x.mark(m / 2, 3 * m);
        }
        Check.beats(x, "012301230123012301230123");
        return x;
    }

    /** Hands of that strength that neither tire nor rest. */
    static HeaveSongs tireless(int many, int strength) {
        HeaveSongs x = new HeaveSongs();
        for (int h = 0; h < many; h++) {
            x.hand(strength, 0, 0, 0);
        }
        return x;
    }

    static String times(String beats, int n) {
        return beats.repeat(n);
    }
}

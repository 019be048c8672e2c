/** Holds answers against those that are due, and ends a test with exit code 1 if one is not. */
final class Check {
    private final String test;
    private int wrong;
    private int seen;

    Check(String test) {
        this.test = test;
    }

    void due(String call, long got, long want) {
        seen++;
        if (got != want) {
            wrong++;
            System.out.println(test + ": " + call + " answered " + got + ", due is " + want);
        }
    }

    void holds(String what, boolean it) {
        due(what, it ? 1 : 0, 1);
    }

    void end() {
        System.out.println(test + ": " + seen + " answers, " + wrong + " wrong");
        if (wrong != 0) {
            System.exit(1);
        }
    }

    /** A new song whose verse and refrain are told by a digit for each beat. */
    static int song(HeaveSongs x, String verse, String refrain) {
        x.rest();
        beats(x, verse);
        int number = x.song();
        if (!refrain.isEmpty()) {
            beats(x, refrain);
            x.refrain(number);
        }
        return number;
    }

    static int song(HeaveSongs x, String verse) {
        return song(x, verse, "");
    }

    static void beats(HeaveSongs x, String digits) {
        for (char c : digits.toCharArray()) {
            x.beat(c - '0');
        }
    }
}

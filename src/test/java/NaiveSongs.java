import java.math.BigInteger;
import java.util.ArrayList;
import java.util.Arrays;
import java.util.HashMap;
import java.util.List;
import java.util.Map;

/**
 * The document told once more, as plainly as can be and with no thought of speed: songs are texts of digits,
 * plans and crews are all tried to their ends. It is what AgainstNaiveTest holds the class against.
 */
final class NaiveSongs {
    private static final int NONE = -1, BAD = -2, NO = -3, FULL = -4;
    private static final BigInteger MANY = BigInteger.TEN.pow(15);

    private String row = "";
    private final List<String> verses = new ArrayList<>();
    private final List<String> refrains = new ArrayList<>();
    private final List<int[]> hands = new ArrayList<>();
    private final List<Integer> now = new ArrayList<>();
    private final List<Integer> late = new ArrayList<>();
    private final List<Boolean> atRope = new ArrayList<>();
    private int floor;
    private int between;
    private final List<int[]> tasks = new ArrayList<>();
    private final List<String> words = new ArrayList<>();
    private final List<int[]> marks = new ArrayList<>();
    private List<Integer> won = new ArrayList<>();
    private List<Integer> force = new ArrayList<>();

    int beat(int v) {
        if (v < 0 || v > 3) return BAD;
        if (row.length() == 24) return FULL;
        row += v;
        return row.length();
    }

    int rest() {
        int had = row.length();
        row = "";
        return had;
    }

    int song() {
        if (row.isEmpty()) return NO;
        if (verses.size() == 6) return FULL;
        verses.add(row);
        refrains.add("");
        row = "";
        return verses.size() - 1;
    }

    int refrain(int song) {
        if (noSong(song)) return BAD;
        if (row.length() > 12) return NO;
        refrains.set(song, row);
        row = "";
        return refrains.get(song).length();
    }

    int beatAt(int song, int t) {
        if (noSong(song) || t < 0 || t > 1000) return BAD;
        return sung(song, t);
    }

    int hand(int strength, int tires, int rests, int breaths) {
        if (strength < 1 || strength > 100 || tires < 0 || tires > 30
                || rests < 0 || rests > 30 || breaths < 0 || breaths > 30) return BAD;
        if (hands.size() == 10) return FULL;
        hands.add(new int[] {strength, tires, rests, breaths});
        now.add(strength);
        late.add(0);
        atRope.add(true);
        return hands.size() - 1;
    }

    int late(int hand, int k) {
        if (noHand(hand) || k < 0 || k > 3) return BAD;
        return late.set(hand, k);
    }

    int crew(int set) {
        if (set < 0 || set >= Math.pow(2, hands.size())) return BAD;
        int was = crewSet();
        for (int h = 0; h < hands.size(); h++) atRope.set(h, set / (int) Math.pow(2, h) % 2 == 1);
        return was;
    }

    int floor(int v) {
        if (v < 0 || v > 100) return BAD;
        int was = floor;
        floor = v;
        return was;
    }

    int now(int hand) {
        return noHand(hand) ? BAD : now.get(hand);
    }

    int pause(int n) {
        if (n < 0 || n > 100) return BAD;
        restAll(now, n);
        int many = 0;
        for (int h = 0; h < hands.size(); h++) if (now.get(h) == hands.get(h)[0]) many++;
        return many;
    }

    int haul(int song, int goal, int load, int slip) {
        if (noSong(song) || badTask(goal, load, slip)) return BAD;
        Haul haul = new Haul(now, late, atRope, floor);
        int answer = haul.run(song, goal, load, slip);
        won = haul.won;
        force = haul.force;
        for (int h = 0; h < hands.size(); h++) now.set(h, haul.now.get(h));
        return answer;
    }

    int won(int t) {
        return t < 0 ? BAD : t >= won.size() ? NONE : won.get(t);
    }

    int force(int t) {
        return t < 0 ? BAD : t >= force.size() ? NONE : force.get(t);
    }

    int task(int goal, int load, int slip) {
        if (badTask(goal, load, slip)) return BAD;
        if (tasks.size() == 4) return FULL;
        tasks.add(new int[] {goal, load, slip});
        return tasks.size() - 1;
    }

    int between(int n) {
        if (n < 0 || n > 50) return BAD;
        int was = between;
        between = n;
        return was;
    }

    int plan() {
        if (tasks.isEmpty() || verses.isEmpty()) return NO;
        int[] best = bestPlan();
        return best == null ? NONE : best[tasks.size()];
    }

    int planAt(int i) {
        if (i < 0 || i >= tasks.size()) return BAD;
        if (verses.isEmpty()) return NO;
        int[] best = bestPlan();
        return best == null ? NONE : best[i];
    }

    /** A song for each task, then the beats; null if all fail. */
    private int[] bestPlan() {
        int plans = 1;
        for (int i = 0; i < tasks.size(); i++) plans *= verses.size();
        int[] best = null;
        for (int p = 0; p < plans; p++) {
            int[] tried = new int[tasks.size() + 1];
            int digits = p;
            for (int i = tasks.size() - 1; i >= 0; i--) {
                tried[i] = digits % verses.size();
                digits /= verses.size();
            }
            tried[tasks.size()] = beatsOf(tried);
            if (tried[tasks.size()] > 0 && (best == null || tried[tasks.size()] < best[tasks.size()])) best = tried;
        }
        return best;
    }

    private int beatsOf(int[] songs) {
        List<Integer> from = new ArrayList<>(now);
        int beats = 0;
        for (int i = 0; i < tasks.size(); i++) {
            int[] task = tasks.get(i);
            Haul haul = new Haul(from, late, atRope, floor);
            int answer = haul.run(songs[i], task[0], task[1], task[2]);
            if (answer < 0) return NONE;
            beats += answer;
            from = haul.now;
            if (i < tasks.size() - 1) {
                beats += between;
                restAll(from, between);
            }
        }
        return beats;
    }

    int best(int song, int task, int k, int what) {
        if (noSong(song) || task < 0 || task >= tasks.size() || k < 1 || k > hands.size()
                || what < 0 || what > 2) return BAD;
        int[] best = null;
        for (int set = 0; set < 1 << hands.size(); set++) {
            if (Integer.toBinaryString(set).replace("0", "").length() != k) continue;
            List<Boolean> crew = new ArrayList<>();
            for (int h = 0; h < hands.size(); h++) crew.add((set & 1 << h) != 0);
            Haul haul = new Haul(now, late, crew, floor);
            int answer = haul.run(song, tasks.get(task)[0], tasks.get(task)[1], tasks.get(task)[2]);
            if (answer < 0) continue;
            int least = haul.now.stream().min(Integer::compare).get();
            int[] tried = {set, answer, least};
            if (best == null || tried[1] < best[1] || tried[1] == best[1] && tried[2] > best[2]) best = tried;
        }
        return best == null ? NONE : best[what];
    }

    int word(int sounds, int bits) {
        if (sounds < 1 || sounds > 5 || bits < 0 || bits >= Math.pow(2, sounds)) return BAD;
        if (words.size() == 12) return FULL;
        String beats = "";
        for (int i = sounds - 1; i >= 0; i--) beats += (bits & 1 << i) != 0 ? "2" : "1";
        words.add(beats);
        return words.size() - 1;
    }

    long lines(int song) {
        if (noSong(song)) return BAD;
        return ways(verses.get(song), new HashMap<>()).min(MANY).longValueExact();
    }

    private BigInteger ways(String verse, Map<String, BigInteger> known) {
        if (verse.isEmpty()) return BigInteger.ONE;
        if (known.containsKey(verse)) return known.get(verse);
        BigInteger sum = BigInteger.ZERO;
        if (verse.startsWith("0") || verse.startsWith("3")) {
            sum = ways(verse.substring(1), known);
        } else {
            for (String word : words) {
                if (verse.startsWith(word)) sum = sum.add(ways(verse.substring(word.length()), known));
            }
        }
        known.put(verse, sum);
        return sum;
    }

    int lineAt(int song, long i, int k) {
        if (noSong(song) || i < 0 || k < 0) return BAD;
        if (BigInteger.valueOf(i).compareTo(MANY) >= 0) return NONE;
        List<Integer> line = lineOf(verses.get(song), BigInteger.valueOf(i));
        return line == null || k >= line.size() ? NONE : line.get(k);
    }

    private List<Integer> lineOf(String verse, BigInteger i) {
        Map<String, BigInteger> known = new HashMap<>();
        if (ways(verse, known).compareTo(BigInteger.valueOf(5000)) <= 0) {
            List<List<Integer>> all = new ArrayList<>();
            collect(verse, new ArrayList<>(), all);
            return i.compareTo(BigInteger.valueOf(all.size())) < 0 ? all.get(i.intValue()) : null;
        }
        if (i.compareTo(ways(verse, known)) >= 0) return null;
        List<Integer> line = new ArrayList<>();
        while (!verse.isEmpty()) {
            if (verse.startsWith("0") || verse.startsWith("3")) {
                verse = verse.substring(1);
                continue;
            }
            for (int w = 0; w < words.size(); w++) {
                if (!verse.startsWith(words.get(w))) continue;
                BigInteger behind = ways(verse.substring(words.get(w).length()), known);
                if (i.compareTo(behind) < 0) {
                    line.add(w);
                    verse = verse.substring(words.get(w).length());
                    break;
                }
                i = i.subtract(behind);
            }
        }
        return line;
    }

    private void collect(String verse, List<Integer> line, List<List<Integer>> all) {
        if (verse.isEmpty()) {
            all.add(new ArrayList<>(line));
        } else if (verse.startsWith("0") || verse.startsWith("3")) {
            collect(verse.substring(1), line, all);
        } else {
            Map<String, BigInteger> known = new HashMap<>();
            if (ways(verse, known).signum() == 0) return;
            for (int w = 0; w < words.size(); w++) {
                if (!verse.startsWith(words.get(w))) continue;
                line.add(w);
                collect(verse.substring(words.get(w).length()), line, all);
                line.remove(line.size() - 1);
            }
        }
    }

    int near(int song) {
        if (noSong(song)) return BAD;
        List<Integer> found = nearest(verses.get(song), new HashMap<>());
        return found == null ? NONE : found.get(0);
    }

    int nearAt(int song, int k) {
        if (noSong(song) || k < 0) return BAD;
        List<Integer> found = nearest(verses.get(song), new HashMap<>());
        return found == null || k + 1L >= found.size() ? NONE : found.get(k + 1);
    }

    /** How many are wrong, then the words; null if there is no line. Least as a row of numbers. */
    private List<Integer> nearest(String verse, Map<String, List<Integer>> known) {
        if (verse.isEmpty()) return List.of(0);
        if (known.containsKey(verse)) return known.get(verse);
        List<Integer> best = null;
        if (verse.startsWith("0") || verse.startsWith("3")) {
            best = nearest(verse.substring(1), known);
        } else {
            for (int w = 0; w < words.size(); w++) {
                String word = words.get(w);
                if (verse.length() < word.length()) continue;
                String under = verse.substring(0, word.length());
                if (under.contains("0") || under.contains("3")) continue;
                List<Integer> behind = nearest(verse.substring(word.length()), known);
                if (behind == null) continue;
                int wrong = behind.get(0);
                for (int i = 0; i < word.length(); i++) if (word.charAt(i) != under.charAt(i)) wrong++;
                List<Integer> tried = new ArrayList<>(List.of(wrong, w));
                tried.addAll(behind.subList(1, behind.size()));
                if (best == null || isAhead(tried, best)) best = tried;
            }
        }
        known.put(verse, best);
        return best;
    }

    private static boolean isAhead(List<Integer> a, List<Integer> b) {
        return Arrays.compare(a.stream().mapToInt(i -> i).toArray(), b.stream().mapToInt(i -> i).toArray()) < 0;
    }

    int mark(int beat, int v) {
        if (beat < 0 || beat > 299 || v < 0 || v > 5000) return BAD;
        if (marks.size() == 60) return FULL;
        marks.add(new int[] {beat, v});
        return marks.size();
    }

    int wipe() {
        int had = marks.size();
        marks.clear();
        return had;
    }

    int who(int song, int load, int slip, int what) {
        if (noSong(song) || badTask(1, load, slip) || what < 0 || what > 2) return BAD;
        int[] best = {NONE, 0, sumIf(song, load, slip, new int[10])};
        for (int a = 0; a < hands.size(); a++) {
            for (int k = 1; k <= 3 && atRope.get(a); k++) {
                int[] lateBy = new int[10];
                lateBy[a] = k;
                int sum = sumIf(song, load, slip, lateBy);
                if (sum < best[2]) best = new int[] {a, k, sum};
            }
        }
        return best[what];
    }

    int two(int song, int load, int slip, int what) {
        if (noSong(song) || badTask(1, load, slip) || what < 0 || what > 4) return BAD;
        int[] best = null;
        for (int a = 0; a < hands.size(); a++) {
            for (int b = a + 1; b < hands.size(); b++) {
                if (!atRope.get(a) || !atRope.get(b)) continue;
                for (int each = 0; each < 9; each++) {
                    int[] lateBy = new int[10];
                    lateBy[a] = each / 3 + 1;
                    lateBy[b] = each % 3 + 1;
                    int sum = sumIf(song, load, slip, lateBy);
                    if (best == null || sum < best[4]) best = new int[] {a, b, lateBy[a], lateBy[b], sum};
                }
            }
        }
        return best == null ? NONE : best[what];
    }

    private int sumIf(int song, int load, int slip, int[] lateBy) {
        List<Integer> fresh = new ArrayList<>();
        List<Integer> tried = new ArrayList<>();
        for (int h = 0; h < hands.size(); h++) {
            fresh.add(hands.get(h)[0]);
            tried.add(lateBy[h]);
        }
        Haul haul = new Haul(fresh, tried, atRope, -1);
        haul.run(song, Integer.MAX_VALUE, load, slip);
        int sum = 0;
        for (int[] mark : marks) sum += Math.abs(haul.won.get(mark[0]) - mark[1]);
        return sum;
    }

    int apart(int song, int other) {
        if (noSong(song) || noSong(other)) return BAD;
        return changes(verses.get(song), verses.get(other), new HashMap<>())
                + changes(refrains.get(song), refrains.get(other), new HashMap<>());
    }

    private static int changes(String a, String b, Map<String, Integer> known) {
        if (a.isEmpty() || b.isEmpty()) return a.length() + b.length();
        String key = a + "/" + b;
        if (known.containsKey(key)) return known.get(key);
        int least = changes(a.substring(1), b.substring(1), known) + (a.charAt(0) == b.charAt(0) ? 0 : 1);
        least = Math.min(least, changes(a.substring(1), b, known) + 1);
        least = Math.min(least, changes(a, b.substring(1), known) + 1);
        known.put(key, least);
        return least;
    }

    int hangs(int song) {
        return noSong(song) ? BAD : treeOf()[song][0];
    }

    int tree() {
        int sum = 0;
        for (int[] hung : treeOf()) sum += hung[1];
        return sum;
    }

    /** For each song what it hangs to, and how far. */
    private int[][] treeOf() {
        int[][] hung = new int[verses.size()][];
        if (hung.length > 0) hung[0] = new int[] {NONE, 0};
        for (int round = 1; round < hung.length; round++) {
            int song = 0;
            int[] least = null;
            for (int far = 0; least == null; far++) {
                for (int s = 0; s < hung.length && least == null; s++) {
                    for (int r = 0; r < hung.length && least == null; r++) {
                        if (hung[s] == null && hung[r] != null && apart(s, r) == far) {
                            song = s;
                            least = new int[] {r, far};
                        }
                    }
                }
            }
            hung[song] = least;
        }
        return hung;
    }

    int count(int what) {
        int[] all = {verses.size(), hands.size(), crewSet(), floor, tasks.size(), words.size(), marks.size(),
            row.length(), won.size()};
        return what < 0 || what > 8 ? BAD : all[what];
    }

    long digest() {
        List<Integer> all = new ArrayList<>();
        for (int what = 0; what <= 8; what++) all.add(count(what));
        addDigits(all, row);
        for (int s = 0; s < verses.size(); s++) {
            all.add(verses.get(s).length());
            all.add(refrains.get(s).length());
            addDigits(all, verses.get(s) + refrains.get(s));
        }
        for (int h = 0; h < hands.size(); h++) {
            for (int v : hands.get(h)) all.add(v);
            all.add(late.get(h));
            all.add(now.get(h));
        }
        all.addAll(won);
        all.addAll(force);
        for (int[] task : tasks) for (int v : task) all.add(v);
        for (String word : words) {
            all.add(word.length());
            all.add(Integer.parseInt(word.replace('1', '0').replace('2', '1'), 2));
        }
        for (int[] mark : marks) for (int v : mark) all.add(v);
        long h = 283;
        for (int v : all) h = 31 * h + v;
        return h;
    }

    private static void addDigits(List<Integer> all, String digits) {
        for (char c : digits.toCharArray()) all.add(c - '0');
    }

    private int crewSet() {
        int set = 0;
        for (int h = hands.size() - 1; h >= 0; h--) set = 2 * set + (atRope.get(h) ? 1 : 0);
        return set;
    }

    private int sung(int song, int t) {
        String round = verses.get(song) + refrains.get(song);
        return round.charAt(t % round.length()) - '0';
    }

    private void restAll(List<Integer> row, int n) {
        for (int beat = 0; beat < n; beat++) {
            for (int h = 0; h < hands.size(); h++) {
                row.set(h, Math.min(hands.get(h)[0], row.get(h) + hands.get(h)[2]));
            }
        }
    }

    private boolean noSong(int song) {
        return song < 0 || song >= verses.size();
    }

    private boolean noHand(int hand) {
        return hand < 0 || hand >= hands.size();
    }

    private static boolean badTask(int goal, int load, int slip) {
        return goal < 1 || goal > 3000 || load < 0 || load > 1000 || slip < 0 || slip > 50;
    }

    private final class Haul {
        final List<Integer> now;
        final List<Integer> late;
        final List<Boolean> atRope;
        final int floor;
        final List<Integer> won = new ArrayList<>();
        final List<Integer> force = new ArrayList<>();

        Haul(List<Integer> now, List<Integer> late, List<Boolean> atRope, int floor) {
            this.now = new ArrayList<>(now);
            this.late = late;
            this.atRope = atRope;
            this.floor = floor;
        }

        int run(int song, int goal, int load, int slip) {
            int rope = 0;
            for (int t = 0; t < 300; t++) {
                List<Integer> pulled = new ArrayList<>();
                int together = 0;
                for (int h = 0; h < hands.size(); h++) {
                    int own = t - late.get(h);
                    if (atRope.get(h) && own >= 0 && sung(song, own) == 2) {
                        pulled.add(h);
                        together += now.get(h);
                    }
                }
                if (together > load) {
                    rope += (together - load) / 10;
                } else {
                    rope -= slip;
                    if (rope < 0) rope = 0;
                }
                for (int h = 0; h < hands.size(); h++) {
                    int[] hand = hands.get(h);
                    int v = now.get(h);
                    if (pulled.contains(h)) v = v - hand[1];
                    else if (!atRope.get(h)) v = v + hand[2];
                    else if (sung(song, t) == 0) v = v + hand[2];
                    else if (sung(song, t) == 3) v = v + hand[3];
                    if (v < 0) v = 0;
                    if (v > hand[0]) v = hand[0];
                    now.set(h, v);
                }
                won.add(rope);
                force.add(together);
                for (int h = 0; h < hands.size(); h++) {
                    if (atRope.get(h) && now.get(h) < floor) return -10 - won.size();
                }
                if (rope >= goal) return won.size();
            }
            return -10 - won.size();
        }
    }
}

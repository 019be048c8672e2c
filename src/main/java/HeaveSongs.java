import java.util.ArrayList;

/** Songs to haul by: see README.md for the use and ../shared/DOC.md for the promises. */
public final class HeaveSongs {
    public static final int NONE = -1, BAD = -2, NO = -3, FULL = -4;

    private static final int REST = 0, WORD = 1, PULL = 2, BREATH = 3;
    private static final int MOST_SONGS = 6, MOST_VERSE = 24, MOST_REFRAIN = 12, MOST_SUNG = 1000;
    private static final int MOST_HANDS = 10, MOST_STRENGTH = 100, MOST_CHANGE = 30, MOST_LATE = 3;
    private static final int MOST_FLOOR = 100, MOST_REST = 100, MOST_BETWEEN = 50;
    private static final int MOST_BEATS = 300, MOST_GOAL = 3000, MOST_LOAD = 1000, MOST_SLIP = 50;
    private static final int MOST_TASKS = 4, MOST_WORDS = 12, MOST_SOUNDS = 5;
    private static final int MOST_MARKS = 60, MOST_READ = 5000;
    private static final int NO_GOAL = 1000000000, NOT_FOUND = 1000000000;
    private static final long MOST_LINES = 1000000000000000L;

    private final Row row;
    private final ArrayList<Song> songs;
    private final Hands hands;
    private final Haul latest;
    private final ArrayList<Task> tasks;
    private int pauseBetween;
    private final TaskSearch taskSearch;
    private final ArrayList<Word> words;
    private final LineMaker lineMaker;
    private final Marks marks;
    private final LateSearch lateSearch;
    private final Kin kin;

    public HeaveSongs() {
        row = new Row();
        songs = new ArrayList<Song>();
        hands = new Hands();
        latest = new Haul();
        tasks = new ArrayList<Task>();
        taskSearch = new TaskSearch();
        words = new ArrayList<Word>();
        lineMaker = new LineMaker();
        marks = new Marks();
        lateSearch = new LateSearch();
        kin = new Kin();
    }

    // ---- songs, hands

    public int beat(int v) {
        if (v < REST || v > BREATH) {
            return BAD;
        }
        return row.add(v) ? row.size : FULL;
    }

    public int rest() {
        int had = row.size;
        row.size = 0;
        return had;
    }

    public int song() {
        if (row.size == 0) {
            return NO;
        }
        if (songs.size() >= MOST_SONGS) {
            return FULL;
        }
        Song made = new Song();
        made.verse.take(row);
        songs.add(made);
        taskSearch.planKnown = false;
        return songs.size() - 1;
    }

    public int refrain(int song) {
        Song sung = songOf(song);
        if (sung == null) {
            return BAD;
        }
        if (row.size > MOST_REFRAIN) {
            return NO;
        }
        sung.refrain.take(row);
        taskSearch.planKnown = false;
        return sung.refrain.size;
    }

    public int beatAt(int song, int t) {
        Song sung = songOf(song);
        if (sung == null || !within(t, 0, MOST_SUNG)) {
            return BAD;
        }
        return sung.sungAt(t);
    }

    public int hand(int strength, int tires, int rests, int breaths) {
        if (!within(strength, 1, MOST_STRENGTH) || !within(tires, 0, MOST_CHANGE)
                || !within(rests, 0, MOST_CHANGE) || !within(breaths, 0, MOST_CHANGE)) {
            return BAD;
        }
        if (!hands.add(strength, tires, rests, breaths)) {
            return FULL;
        }
        taskSearch.planKnown = false;
        return hands.size - 1;
    }

    public int late(int hand, int k) {
        if (!hands.has(hand) || !within(k, 0, MOST_LATE)) {
            return BAD;
        }
        int was = hands.late[hand];
        hands.late[hand] = k;
        taskSearch.planKnown = false;
        return was;
    }

    public int crew(int set) {
        if (!within(set, 0, hands.allSet())) {
            return BAD;
        }
        int was = hands.crew;
        hands.crew = set;
        taskSearch.planKnown = false;
        return was;
    }

    public int floor(int v) {
        if (!within(v, 0, MOST_FLOOR)) {
            return BAD;
        }
        int was = hands.floor;
        hands.floor = v;
        taskSearch.planKnown = false;
        return was;
    }

    public int now(int hand) {
        return hands.has(hand) ? hands.now[hand] : BAD;
    }

    public int pause(int n) {
        if (!within(n, 0, MOST_REST)) {
            return BAD;
        }
        hands.restFor(n, hands.now);
        taskSearch.planKnown = false;
        return hands.howManyAtStrength();
    }

    // ---- hauls

    public int haul(int song, int goal, int load, int slip) {
        Song sung = songOf(song);
        if (sung == null || !isTask(goal, load, slip)) {
            return BAD;
        }
        latest.beginAsTold(hands);
        boolean done = latest.go(hands, sung, new Task(goal, load, slip), MOST_BEATS);
        copy(latest.now, hands.now);
        taskSearch.planKnown = false;
        return done ? latest.beats : -10 - latest.beats;
    }

    public int won(int t) {
        return ofLatest(latest.won, t);
    }

    public int force(int t) {
        return ofLatest(latest.force, t);
    }

    // ---- tasks

    public int task(int goal, int load, int slip) {
        if (!isTask(goal, load, slip)) {
            return BAD;
        }
        if (tasks.size() >= MOST_TASKS) {
            return FULL;
        }
        tasks.add(new Task(goal, load, slip));
        taskSearch.planKnown = false;
        return tasks.size() - 1;
    }

    public int between(int n) {
        if (!within(n, 0, MOST_BETWEEN)) {
            return BAD;
        }
        int was = pauseBetween;
        pauseBetween = n;
        taskSearch.planKnown = false;
        return was;
    }

    public int plan() {
        if (tasks.isEmpty() || songs.isEmpty()) {
            return NO;
        }
        taskSearch.findPlan(songs, hands, tasks, pauseBetween);
        return taskSearch.planBeats == NOT_FOUND ? NONE : taskSearch.planBeats;
    }

    public int planAt(int i) {
        if (!within(i, 0, tasks.size() - 1)) {
            return BAD;
        }
        if (songs.isEmpty()) {
            return NO;
        }
        taskSearch.findPlan(songs, hands, tasks, pauseBetween);
        return taskSearch.planBeats == NOT_FOUND ? NONE : taskSearch.planSongs[i];
    }

    public int best(int song, int task, int k, int what) {
        Song sung = songOf(song);
        if (sung == null || !within(task, 0, tasks.size() - 1)
                || !within(k, 1, hands.size) || !within(what, 0, 2)) {
            return BAD;
        }
        taskSearch.findCrew(hands, sung, tasks.get(task), k);
        if (taskSearch.crewBeats == NOT_FOUND) {
            return NONE;
        }
        switch (what) {
            case 0: return taskSearch.crewSet;
            case 1: return taskSearch.crewBeats;
            default: return taskSearch.crewLeastNow;
        }
    }

    // ---- words

    public int word(int sounds, int bits) {
        if (!within(sounds, 1, MOST_SOUNDS) || !within(bits, 0, (1 << sounds) - 1)) {
            return BAD;
        }
        if (words.size() >= MOST_WORDS) {
            return FULL;
        }
        words.add(new Word(sounds, bits));
        return words.size() - 1;
    }

    public long lines(int song) {
        Song sung = songOf(song);
        if (sung == null) {
            return BAD;
        }
        return lineMaker.howMany(sung.verse, words);
    }

    public int lineAt(int song, long i, int k) {
        Song sung = songOf(song);
        if (sung == null || i < 0 || k < 0) {
            return BAD;
        }
        lineMaker.makeLine(sung.verse, words, i);
        return lineMaker.wordAt(k);
    }

    public int near(int song) {
        Song sung = songOf(song);
        if (sung == null) {
            return BAD;
        }
        return lineMaker.fewestWrong(sung.verse, words);
    }

    public int nearAt(int song, int k) {
        Song sung = songOf(song);
        if (sung == null || k < 0) {
            return BAD;
        }
        lineMaker.makeNearLine(sung.verse, words);
        return lineMaker.wordAt(k);
    }

    // ---- marks

    public int mark(int beat, int v) {
        if (!within(beat, 0, MOST_BEATS - 1) || !within(v, 0, MOST_READ)) {
            return BAD;
        }
        return marks.add(beat, v) ? marks.size : FULL;
    }

    public int wipe() {
        int had = marks.size;
        marks.size = 0;
        return had;
    }

    public int who(int song, int load, int slip, int what) {
        Song sung = songOf(song);
        if (sung == null || !isWeight(load, slip) || !within(what, 0, 2)) {
            return BAD;
        }
        lateSearch.findOne(hands, sung, new Task(NO_GOAL, load, slip), marks);
        switch (what) {
            case 0: return lateSearch.handA;
            case 1: return lateSearch.lateA;
            default: return lateSearch.sum;
        }
    }

    public int two(int song, int load, int slip, int what) {
        Song sung = songOf(song);
        if (sung == null || !isWeight(load, slip) || !within(what, 0, 4)) {
            return BAD;
        }
        if (Integer.bitCount(hands.crew) < 2) {
            return NONE;
        }
        lateSearch.findTwo(hands, sung, new Task(NO_GOAL, load, slip), marks);
        switch (what) {
            case 0: return lateSearch.handA;
            case 1: return lateSearch.handB;
            case 2: return lateSearch.lateA;
            case 3: return lateSearch.lateB;
            default: return lateSearch.sum;
        }
    }

    // ---- kin

    public int apart(int song, int other) {
        Song one = songOf(song);
        Song another = songOf(other);
        if (one == null || another == null) {
            return BAD;
        }
        return kin.distance(one, another);
    }

    public int hangs(int song) {
        if (!within(song, 0, songs.size() - 1)) {
            return BAD;
        }
        kin.growTree(songs);
        return kin.hungTo[song];
    }

    public int tree() {
        return kin.growTree(songs);
    }

    public int count(int what) {
        switch (what) {
            case 0: return songs.size();
            case 1: return hands.size;
            case 2: return hands.crew;
            case 3: return hands.floor;
            case 4: return tasks.size();
            case 5: return words.size();
            case 6: return marks.size;
            case 7: return row.size;
            case 8: return latest.beats;
            default: return BAD;
        }
    }

    public long digest() {
        long h = 283;
        for (int what = 0; what <= 8; what++) {
            h = 31 * h + count(what);
        }
        h = row.mixedInto(h);
        for (int s = 0; s < songs.size(); s++) {
            h = songs.get(s).mixedInto(h);
        }
        h = hands.mixedInto(h);
        h = latest.mixedInto(h);
        for (int i = 0; i < tasks.size(); i++) {
            h = tasks.get(i).mixedInto(h);
        }
        for (int w = 0; w < words.size(); w++) {
            h = words.get(w).mixedInto(h);
        }
        return marks.mixedInto(h);
    }

    // ---- what the calls share

    private static boolean within(int v, int least, int most) {
        return v >= least && v <= most;
    }

    private static boolean isSilent(int beat) {
        return beat != WORD && beat != PULL;
    }

    private static boolean isIn(int set, int hand) {
        return (set >> hand & 1) == 1;
    }

    private static boolean isWeight(int load, int slip) {
        return within(load, 0, MOST_LOAD) && within(slip, 0, MOST_SLIP);
    }

    private static boolean isTask(int goal, int load, int slip) {
        return within(goal, 1, MOST_GOAL) && isWeight(load, slip);
    }

    private static void copy(int[] from, int[] to) {
        for (int i = 0; i < from.length && i < to.length; i++) {
            to[i] = from[i];
        }
    }

    /** The song of that number, or null where there is none. */
    private Song songOf(int number) {
        return within(number, 0, songs.size() - 1) ? songs.get(number) : null;
    }

    private int ofLatest(int[] byBeat, int t) {
        if (t < 0) {
            return BAD;
        }
        return t < latest.beats && t < byBeat.length ? byBeat[t] : NONE;
    }

    /** Beats in a row: THE ROW, a VERSE or a REFRAIN. */
    private static final class Row {
        final int[] beats = new int[MOST_VERSE];
        int size;

        boolean add(int beat) {
            if (size >= beats.length) {
                return false;
            }
            beats[size] = beat;
            size++;
            return true;
        }

        /** Becomes what the other one is, and leaves it empty. */
        void take(Row other) {
            copy(other.beats, beats);
            size = other.size;
            other.size = 0;
        }

        long mixedInto(long digest) {
            long h = digest;
            for (int i = 0; i < size; i++) {
                h = 31 * h + beats[i];
            }
            return h;
        }
    }

    private static final class Song {
        final Row verse = new Row();
        final Row refrain = new Row();

        int sungAt(int t) {
            int round = verse.size + refrain.size;
            if (t < 0 || round <= 0) {
                return REST;
            }
            int place = t % round;
            return place < verse.size ? verse.beats[place] : refrain.beats[place - verse.size];
        }

        long mixedInto(long digest) {
            long h = 31 * digest + verse.size;
            h = 31 * h + refrain.size;
            return refrain.mixedInto(verse.mixedInto(h));
        }
    }

    /** All hands, one place in each row for each, and what holds for them together. */
    private static final class Hands {
        final int[] strength = new int[MOST_HANDS];
        final int[] tires = new int[MOST_HANDS];
        final int[] rests = new int[MOST_HANDS];
        final int[] breaths = new int[MOST_HANDS];
        final int[] late = new int[MOST_HANDS];
        final int[] now = new int[MOST_HANDS];
        int size;
        int crew;
        int floor;

        boolean has(int hand) {
            return within(hand, 0, size - 1);
        }

        int allSet() {
            return (1 << size) - 1;
        }

        boolean add(int itsStrength, int itsTires, int itsRests, int itsBreaths) {
            if (size >= MOST_HANDS) {
                return false;
            }
            strength[size] = itsStrength;
            tires[size] = itsTires;
            rests[size] = itsRests;
            breaths[size] = itsBreaths;
            now[size] = itsStrength;
            crew |= 1 << size;
            size++;
            return true;
        }

        /** What NOW of all hands, as it stands in that row, is behind n beats of rest. */
        void restFor(int n, int[] itsNow) {
            for (int h = 0; h < size && h < itsNow.length; h++) {
                itsNow[h] = Math.min(strength[h], itsNow[h] + n * rests[h]);
            }
        }

        int howManyAtStrength() {
            int many = 0;
            for (int h = 0; h < size; h++) {
                if (now[h] == strength[h]) {
                    many++;
                }
            }
            return many;
        }

        long mixedInto(long digest) {
            long h = digest;
            for (int i = 0; i < size; i++) {
                h = 31 * h + strength[i];
                h = 31 * h + tires[i];
                h = 31 * h + rests[i];
                h = 31 * h + breaths[i];
                h = 31 * h + late[i];
                h = 31 * h + now[i];
            }
            return h;
        }
    }

    private static final class Task {
        final int goal;
        final int load;
        final int slip;

        Task(int goal, int load, int slip) {
            this.goal = goal;
            this.load = load;
            this.slip = slip;
        }

        int wonBehind(int won, int force) {
            return force > load ? won + (force - load) / 10 : Math.max(0, won - slip);
        }

        long mixedInto(long digest) {
            long h = 31 * digest + goal;
            h = 31 * h + load;
            return 31 * h + slip;
        }
    }

    /** A haul with rows of its own for NOW and LATE, so that one on trial tires nobody. */
    private static final class Haul {
        final int[] now = new int[MOST_HANDS];
        final int[] late = new int[MOST_HANDS];
        final int[] won = new int[MOST_BEATS];
        final int[] force = new int[MOST_BEATS];
        final int[] crewByLate = new int[MOST_LATE + 1];
        int crew;
        int floor;
        int beats;

        void beginAsTold(Hands hands) {
            copy(hands.now, now);
            copy(hands.late, late);
            crew = hands.crew;
            floor = hands.floor;
        }

        void beginFresh(Hands hands) {
            copy(hands.strength, now);
            for (int h = 0; h < MOST_HANDS; h++) {
                late[h] = 0;
            }
            crew = hands.crew;
            floor = 0;
        }

        /** Whether it is done within so many beats. */
        boolean go(Hands hands, Song song, Task task, int most) {
            int rope = 0;
            beats = 0;
            gatherByLate(hands.size);
            for (int t = 0; t < most && t < MOST_BEATS; t++) {
                int together = pull(hands, pullersAt(song, t), song.sungAt(t));
                rope = task.wonBehind(rope, together);
                won[t] = rope;
                force[t] = together;
                beats = t + 1;
                if (isBelowFloor(hands.size)) {
                    return false;
                }
                if (rope >= task.goal) {
                    return true;
                }
            }
            return false;
        }

        // Hands that are late by as many beats pull at once: a beat is looked up for all of them.
        private void gatherByLate(int size) {
            for (int k = 0; k <= MOST_LATE; k++) {
                crewByLate[k] = 0;
            }
            for (int h = 0; h < size; h++) {
                if (isIn(crew, h) && within(late[h], 0, MOST_LATE)) {
                    crewByLate[late[h]] |= 1 << h;
                }
            }
        }

        private int pullersAt(Song song, int t) {
            int set = 0;
            for (int k = 0; k <= MOST_LATE && k <= t; k++) {
                if (crewByLate[k] != 0 && song.sungAt(t - k) == PULL) {
                    set |= crewByLate[k];
                }
            }
            return set;
        }

        /** All that the pullers pull with; they tire by it, and the others come back. */
        private int pull(Hands hands, int pullers, int beat) {
            int together = 0;
            for (int h = 0; h < hands.size; h++) {
                int was = now[h];
                if (isIn(pullers, h)) {
                    together += was;
                    now[h] = Math.max(0, was - hands.tires[h]);
                } else if (was < hands.strength[h]) {
                    now[h] = Math.min(hands.strength[h], was + comesBack(hands, h, beat));
                }
            }
            return together;
        }

        private int comesBack(Hands hands, int h, int beat) {
            if (beat == REST || !isIn(crew, h)) {
                return hands.rests[h];
            }
            return beat == BREATH ? hands.breaths[h] : 0;
        }

        private boolean isBelowFloor(int size) {
            if (floor <= 0) {
                return false;
            }
            for (int h = 0; h < size; h++) {
                if (isIn(crew, h) && now[h] < floor) {
                    return true;
                }
            }
            return false;
        }

        int leastNow(int size) {
            int least = MOST_STRENGTH;
            for (int h = 0; h < size; h++) {
                least = Math.min(least, now[h]);
            }
            return least;
        }

        long mixedInto(long digest) {
            long h = digest;
            for (int t = 0; t < beats; t++) {
                h = 31 * h + won[t];
            }
            for (int t = 0; t < beats; t++) {
                h = 31 * h + force[t];
            }
            return h;
        }
    }

    /** Tries songs for all tasks, and crews for one, in the order in which like ones are taken. */
    private static final class TaskSearch {
        final Haul trial = new Haul();
        final int[][] nowAhead = new int[MOST_TASKS][MOST_HANDS];
        final int[] tried = new int[MOST_TASKS];
        final int[] planSongs = new int[MOST_TASKS];
        int planBeats = NOT_FOUND;
        // The plan is dear to find and is asked for task by task: it is kept until something changes.
        boolean planKnown;
        int crewSet;
        int crewBeats = NOT_FOUND;
        int crewLeastNow;

        void findPlan(ArrayList<Song> songs, Hands hands, ArrayList<Task> tasks, int between) {
            if (planKnown) {
                return;
            }
            planBeats = NOT_FOUND;
            trial.beginAsTold(hands);
            copy(hands.now, nowAhead[0]);
            tryFrom(songs, hands, tasks, between, 0, 0);
            planKnown = true;
        }

        /** Tries each song for the task at that depth, and all plans that begin so. */
        private void tryFrom(ArrayList<Song> songs, Hands hands, ArrayList<Task> tasks,
                int between, int depth, int spent) {
            if (depth < 0 || depth >= tasks.size() || depth >= MOST_TASKS) {
                return;
            }
            for (int s = 0; s < songs.size(); s++) {
                copy(nowAhead[depth], trial.now);
                // A plan that comes later must be done sooner: of like ones the first stays.
                int most = planBeats - 1 - spent;
                if (!trial.go(hands, songs.get(s), tasks.get(depth), most)) {
                    continue;
                }
                tried[depth] = s;
                int beats = spent + trial.beats;
                if (depth == tasks.size() - 1) {
                    planBeats = beats;
                    copy(tried, planSongs);
                } else if (depth + 1 < MOST_TASKS) {
                    copy(trial.now, nowAhead[depth + 1]);
                    hands.restFor(between, nowAhead[depth + 1]);
                    tryFrom(songs, hands, tasks, between, depth + 1, beats + between);
                }
            }
        }

        void findCrew(Hands hands, Song song, Task task, int k) {
            crewBeats = NOT_FOUND;
            for (int set = 1; set <= hands.allSet(); set++) {
                if (Integer.bitCount(set) == k) {
                    tryCrew(hands, song, task, set);
                }
            }
        }

        private void tryCrew(Hands hands, Song song, Task task, int set) {
            trial.beginAsTold(hands);
            trial.crew = set;
            if (!trial.go(hands, song, task, crewBeats)) {
                return;
            }
            int leastNow = trial.leastNow(hands.size);
            if (trial.beats < crewBeats || leastNow > crewLeastNow) {
                crewSet = set;
                crewBeats = trial.beats;
                crewLeastNow = leastNow;
            }
        }
    }

    private static final class Word {
        final int sounds;
        final int bits;

        Word(int sounds, int bits) {
            this.sounds = sounds;
            this.bits = bits;
        }

        boolean isStrong(int sound) {
            return (bits >> (sounds - 1 - sound) & 1) == 1;
        }

        /** How many sounds are wrong if it is sung from that beat on; NONE: it can't be sung there. */
        int wrongIfSungFrom(Row verse, int start) {
            if (start < 0 || start + sounds > verse.size) {
                return NONE;
            }
            int wrong = 0;
            for (int k = 0; k < sounds; k++) {
                int beat = verse.beats[start + k];
                if (isSilent(beat)) {
                    return NONE;
                }
                if (isStrong(k) != (beat == PULL)) {
                    wrong++;
                }
            }
            return wrong;
        }

        long mixedInto(long digest) {
            return 31 * (31 * digest + sounds) + bits;
        }
    }

    /** Lays words on the beats of a verse; what is left behind a beat is counted from the end on. */
    private static final class LineMaker {
        final long[] waysFrom = new long[MOST_VERSE + 1];
        final int[] wrongFrom = new int[MOST_VERSE + 1];
        final int[] line = new int[MOST_VERSE];
        int size;
        long linesAhead;

        long howMany(Row verse, ArrayList<Word> words) {
            waysFrom[verse.size] = 1;
            for (int start = verse.size - 1; start >= 0; start--) {
                waysFrom[start] = isSilent(verse.beats[start])
                        ? waysFrom[start + 1] : countWays(verse, words, start);
            }
            return waysFrom[0];
        }

        private long countWays(Row verse, ArrayList<Word> words, int start) {
            long ways = 0;
            for (int w = 0; w < words.size(); w++) {
                Word word = words.get(w);
                if (word.wrongIfSungFrom(verse, start) == 0) {
                    ways = Math.min(MOST_LINES, ways + waysFrom[start + word.sounds]);
                }
            }
            return ways;
        }

        int fewestWrong(Row verse, ArrayList<Word> words) {
            wrongFrom[verse.size] = 0;
            for (int start = verse.size - 1; start >= 0; start--) {
                wrongFrom[start] = isSilent(verse.beats[start])
                        ? wrongFrom[start + 1] : leastWrong(verse, words, start);
            }
            return wrongFrom[0];
        }

        private int leastWrong(Row verse, ArrayList<Word> words, int start) {
            int least = NONE;
            for (int w = 0; w < words.size(); w++) {
                int wrong = wrongWith(words.get(w), verse, start);
                if (wrong != NONE && (least == NONE || wrong < least)) {
                    least = wrong;
                }
            }
            return least;
        }

        /** How many sounds are wrong at least from that beat on, if this word comes there. */
        private int wrongWith(Word word, Row verse, int start) {
            int wrong = word.wrongIfSungFrom(verse, start);
            if (wrong == NONE || wrongFrom[start + word.sounds] == NONE) {
                return NONE;
            }
            return wrong + wrongFrom[start + word.sounds];
        }

        /** The i-th line; it is left empty if there are not so many. */
        void makeLine(Row verse, ArrayList<Word> words, long i) {
            size = 0;
            if (i >= 0 && i < howMany(verse, words)) {
                linesAhead = i;
                lay(verse, words, false);
            }
        }

        /** The first line with the fewest wrong sounds; it is left empty if there is no line. */
        void makeNearLine(Row verse, ArrayList<Word> words) {
            size = 0;
            if (fewestWrong(verse, words) != NONE) {
                lay(verse, words, true);
            }
        }

        private void lay(Row verse, ArrayList<Word> words, boolean isNear) {
            int next = 0;
            for (int start = 0; start < verse.size && size < line.length; start++) {
                if (start < next || isSilent(verse.beats[start])) {
                    continue;
                }
                int w = isNear ? nearWord(verse, words, start) : countedWord(verse, words, start);
                if (w == NONE) {
                    return;
                }
                line[size] = w;
                size++;
                next = start + words.get(w).sounds;
            }
        }

        /** The word with which the lines begin among which the one looked for is. */
        private int countedWord(Row verse, ArrayList<Word> words, int start) {
            for (int w = 0; w < words.size(); w++) {
                Word word = words.get(w);
                if (word.wrongIfSungFrom(verse, start) == 0) {
                    long ways = waysFrom[start + word.sounds];
                    if (linesAhead < ways) {
                        return w;
                    }
                    linesAhead -= ways;
                }
            }
            return NONE;
        }

        private int nearWord(Row verse, ArrayList<Word> words, int start) {
            for (int w = 0; w < words.size(); w++) {
                if (wrongWith(words.get(w), verse, start) == wrongFrom[start]) {
                    return w;
                }
            }
            return NONE;
        }

        int wordAt(int k) {
            return within(k, 0, size - 1) ? line[k] : NONE;
        }
    }

    private static final class Marks {
        final int[] beat = new int[MOST_MARKS];
        final int[] read = new int[MOST_MARKS];
        int size;

        boolean add(int itsBeat, int v) {
            if (size >= MOST_MARKS) {
                return false;
            }
            beat[size] = itsBeat;
            read[size] = v;
            size++;
            return true;
        }

        /** How many beats a haul must have for all marks to be held against it. */
        int span() {
            int most = 0;
            for (int m = 0; m < size; m++) {
                most = Math.max(most, beat[m] + 1);
            }
            return most;
        }

        int differenceTo(int[] won) {
            int sum = 0;
            for (int m = 0; m < size; m++) {
                if (within(beat[m], 0, won.length - 1)) {
                    sum += Math.abs(won[beat[m]] - read[m]);
                }
            }
            return sum;
        }

        long mixedInto(long digest) {
            long h = digest;
            for (int m = 0; m < size; m++) {
                h = 31 * h + beat[m];
                h = 31 * h + read[m];
            }
            return h;
        }
    }

    /** Tries who may have been late, in the order in which like ones are taken. */
    private static final class LateSearch {
        final Haul trial = new Haul();
        int handA;
        int handB;
        int lateA;
        int lateB;
        int sum;

        void findOne(Hands hands, Song song, Task pull, Marks marks) {
            handA = NONE;
            lateA = 0;
            trial.beginFresh(hands);
            sum = sumOfTrial(hands, song, pull, marks);
            for (int a = 0; a < hands.size; a++) {
                for (int k = 1; k <= MOST_LATE && isIn(hands.crew, a); k++) {
                    trial.beginFresh(hands);
                    trial.late[a] = k;
                    int tried = sumOfTrial(hands, song, pull, marks);
                    if (tried < sum) {
                        sum = tried;
                        handA = a;
                        lateA = k;
                    }
                }
            }
        }

        void findTwo(Hands hands, Song song, Task pull, Marks marks) {
            sum = NOT_FOUND;
            for (int a = 0; a < hands.size; a++) {
                for (int b = a + 1; b < hands.size; b++) {
                    if (isIn(hands.crew, a) && isIn(hands.crew, b)) {
                        tryPair(hands, song, pull, marks, a, b);
                    }
                }
            }
        }

        private void tryPair(Hands hands, Song song, Task pull, Marks marks, int a, int b) {
            for (int k = 1; k <= MOST_LATE; k++) {
                for (int m = 1; m <= MOST_LATE; m++) {
                    trial.beginFresh(hands);
                    trial.late[a] = k;
                    trial.late[b] = m;
                    int tried = sumOfTrial(hands, song, pull, marks);
                    if (tried < sum) {
                        sum = tried;
                        handA = a;
                        handB = b;
                        lateA = k;
                        lateB = m;
                    }
                }
            }
        }

        private int sumOfTrial(Hands hands, Song song, Task pull, Marks marks) {
            trial.go(hands, song, pull, marks.span());
            return marks.differenceTo(trial.won);
        }
    }

    private static final class Kin {
        final int[] cost = new int[MOST_VERSE + 1];
        final int[] hungTo = new int[MOST_SONGS];
        final boolean[] isHung = new boolean[MOST_SONGS];

        int distance(Song one, Song other) {
            return changes(one.verse, other.verse) + changes(one.refrain, other.refrain);
        }

        private int changes(Row from, Row to) {
            for (int j = 0; j <= to.size; j++) {
                cost[j] = j;
            }
            for (int i = 0; i < from.size; i++) {
                int corner = cost[0];
                cost[0] = i + 1;
                for (int j = 0; j < to.size; j++) {
                    int above = cost[j + 1];
                    int changed = corner + (from.beats[i] == to.beats[j] ? 0 : 1);
                    cost[j + 1] = Math.min(changed, Math.min(above, cost[j]) + 1);
                    corner = above;
                }
            }
            return cost[to.size];
        }

        /** Hangs all songs, and answers how far they are from what they hang to, together. */
        int growTree(ArrayList<Song> songs) {
            for (int s = 0; s < MOST_SONGS; s++) {
                isHung[s] = s == 0;
                hungTo[s] = NONE;
            }
            int sum = 0;
            for (int more = 1; more < songs.size(); more++) {
                sum += hangNearest(songs);
            }
            return sum;
        }

        private int hangNearest(ArrayList<Song> songs) {
            int least = NOT_FOUND;
            int next = 0;
            int to = NONE;
            for (int s = 0; s < songs.size() && s < MOST_SONGS; s++) {
                for (int r = 0; r < songs.size() && r < MOST_SONGS; r++) {
                    if (!isHung[s] && isHung[r]) {
                        int far = distance(songs.get(s), songs.get(r));
                        if (far < least) {
                            least = far;
                            next = s;
                            to = r;
                        }
                    }
                }
            }
            isHung[next] = true;
            hungTo[next] = to;
            return least;
        }
    }
}

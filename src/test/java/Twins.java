import java.util.function.Supplier;
import java.util.function.ToLongFunction;

/**
 * Two objects made alike, of which one is given a call that changes nothing: whatever is asked of both
 * behind it, and whatever is done with both, must be answered alike.
 */
final class Twins {
    private final Check check;
    private final String call;
    private final HeaveSongs x;
    private final HeaveSongs twin;

    private Twins(Check check, String call, HeaveSongs x, HeaveSongs twin) {
        this.check = check;
        this.call = call;
        this.x = x;
        this.twin = twin;
    }

    static void unchanged(Check check, String call, Supplier<HeaveSongs> made,
            ToLongFunction<HeaveSongs> given, long due) {
        Twins twins = new Twins(check, call, made.get(), made.get());
        check.due(call, given.applyAsLong(twins.x), due);
        twins.askState();
        twins.askSearches();
        twins.goOn();
    }

    private void alike(String asked, ToLongFunction<HeaveSongs> ask) {
        check.due("behind " + call + ": " + asked, ask.applyAsLong(x), ask.applyAsLong(twin));
    }

    private void askState() {
        alike("digest", HeaveSongs::digest);
        for (int i = 0; i <= 9; i++) {
            int n = i;
            alike("count " + n, y -> y.count(n));
            alike("now " + n, y -> y.now(n));
            alike("won " + n, y -> y.won(n));
            alike("force " + n, y -> y.force(n));
        }
        for (int i = 0; i < 6; i++) {
            int s = i;
            alike("beatAt " + s, y -> y.beatAt(s, 0));
            alike("the end of song " + s, y -> y.beatAt(s, 8));
        }
    }

    private void askSearches() {
        alike("plan", HeaveSongs::plan);
        for (int i = 0; i < 4; i++) {
            int n = i;
            alike("planAt " + n, y -> y.planAt(n));
            alike("best " + n, y -> y.best(1, 0, 2, n));
            alike("who " + n, y -> y.who(0, 20, 1, n));
            alike("two " + n, y -> y.two(0, 20, 1, n));
        }
        for (int i = 0; i < 6; i++) {
            int s = i;
            alike("lines " + s, y -> y.lines(s));
            alike("lineAt " + s, y -> y.lineAt(s, 1, 0));
            alike("near " + s, y -> y.near(s));
            alike("nearAt " + s, y -> y.nearAt(s, 1));
            alike("apart " + s, y -> y.apart(0, s));
            alike("hangs " + s, y -> y.hangs(s));
        }
        alike("tree", HeaveSongs::tree);
    }

    private void goOn() {
        alike("between", y -> y.between(0));
        alike("late", y -> y.late(0, 1));
        alike("floor", y -> y.floor(0));
        alike("haul", y -> y.haul(0, 40, 30, 1));
        alike("pause", y -> y.pause(2));
        alike("hand", y -> y.hand(50, 5, 5, 5));
        alike("crew", y -> y.crew(1));
        alike("task", y -> y.task(2, 2, 2));
        alike("word", y -> y.word(3, 5));
        alike("mark", y -> y.mark(9, 9));
        alike("beat", y -> y.beat(2));
        alike("refrain", y -> y.refrain(1));
        alike("song", HeaveSongs::song);
        alike("rest", HeaveSongs::rest);
        alike("digest at last", HeaveSongs::digest);
        alike("wipe", HeaveSongs::wipe);
    }
}

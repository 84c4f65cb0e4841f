import java.util.function.ToIntFunction;

/** Calls that are refused, and calls that only ask, leave everything as it was: two palaces, one of which had the call, tell alike. */
public final class RefusedCallsTest {
    private static final Edges EDGES = new Edges("RefusedCallsTest");
    private static final int NO = -1000000;
    private static final int[] FAR = {Integer.MIN_VALUE, Integer.MAX_VALUE};

    public static void main(String[] args) {
        EDGES.words("Terms", "A call that is refused (NONE, false) changes nothing but the tape, where it is told.");
        changesRefused();
        lawAndTapeRefused();
        asksRefused();
        onlyAsks();
        undoRefused();
        EDGES.end();
    }

    /** Answers what is due and leaves everything, also what was KEPT. */
    private static void leaves(String call, int due, ToIntFunction<BellHours> one) {
        BellHours had = Twins.palace();
        EDGES.is(call, due, one.applyAsInt(had));
        unchanged(call, Twins.told(Twins.palace()), Twins.told(had));
        BellHours undone = Twins.palace();
        one.applyAsInt(undone);
        undone.undo();
        BellHours without = Twins.palace();
        without.undo();
        unchanged(call + ", undone", Twins.told(without), Twins.told(undone));
    }

    private static void unchanged(String call, int[] due, int[] got) {
        EDGES.is(call + " changed what is told at", -1, Twins.firstUnlike(due, got));
    }

    private static int is(boolean answer) {
        return answer ? 1 : 0;
    }

    private static void changesRefused() {
        int[][] wrong = {{-1, 5}, {24, 5}, {0, 12}, {0, -2}};
        for (int[] w : wrong) {
            leaves("own " + w[0] + " " + w[1], 0, x -> is(x.own(w[0], w[1])));
        }
        int[][] rooms = {{-1, 1, 1, 1}, {8, 1, 1, 1}, {0, 100, 1, 1}, {0, 1, -1, 1}, {0, 1, 1, 100}};
        for (int[] w : rooms) {
            leaves("room", 0, x -> is(x.room(w[0], w[1], w[2], w[3])));
        }
        int[][] acts = {{-1, 1, 1, 1}, {12, 1, 1, 1}, {1, 7, 1, 1}, {1, -1, 1, 1}, {1, 1, 8, 1}, {1, 1, 1, 100}, {0, 1, 1, 1}};
        for (int[] w : acts) {
            leaves("act", -1, x -> x.act(w[0], w[1], w[2], w[3]));
        }
        int[] owners = {-1, 12, FAR[0], FAR[1]};
        for (int o : owners) {
            leaves("noActs " + o, -1, x -> x.noActs(o));
            leaves("dies " + o, -1, x -> x.dies(o));
            leaves("searches " + o, 0, x -> is(x.searches(o, 3)));
        }
        leaves("searches 256", 0, x -> is(x.searches(3, 256)));
        leaves("searches -1", 0, x -> is(x.searches(3, -1)));
        int[][] swaps = {{0, 0}, {-1, 0}, {0, 24}, {24, 24}};
        for (int[] w : swaps) {
            leaves("swap " + w[0] + " " + w[1], 0, x -> is(x.swap(w[0], w[1])));
        }
        int[][] words = {{-1, 0}, {24, 0}, {0, 3}, {0, -1}};
        for (int[] w : words) {
            leaves("says " + w[0] + " " + w[1], 0, x -> is(x.says(w[0], w[1])));
        }
        int[] seeds = {-1, 65536, FAR[0], FAR[1]};
        for (int seed : seeds) {
            leaves("seed " + seed, 0, x -> is(x.seed(seed)));
        }
        int[] draws = {0, -1, 41, FAR[0], FAR[1]};
        for (int n : draws) {
            leaves("draw " + n, -1, x -> x.draw(n));
        }
    }

    private static void lawAndTapeRefused() {
        int[][] laws = {{-1, 14}, {2, 14}, {0, 0}, {0, -1}, {0, 21}, {1, 201}, {FAR[0], 14}, {0, FAR[0]}, {0, FAR[1]}};
        for (int[] w : laws) {
            leaves("law " + w[0] + " " + w[1], -1, x -> x.law(w[0], w[1]));
        }
        int[][] checks = {{-1, 1}, {24, 1}, {0, 9}, {0, -1}, {0, 6}, {FAR[1], 1}, {0, FAR[1]}};
        for (int[] w : checks) {
            leaves("check " + w[0] + " " + w[1], -2, x -> x.check(w[0], w[1]));
        }
        for (int w = 0; w < 2; w++) {
            int law = w;
            BellHours had = Twins.palace();
            EDGES.is("a FAULT", -1013, had.law(law, 13));
            BellHours emptied = Twins.palace();
            emptied.check(0, 0);
            unchanged("a FAULT of LAW " + law + " but for the tape", Twins.told(emptied), Twins.told(had));
        }
        BellHours full = Twins.palace();
        BellHours twin = Twins.palace();
        for (int i = 0; i < 10; i++) {
            full.feed(i, i, i, i, i);
            twin.feed(i, i, i, i, i);
        }
        EDGES.is("a feed too many", -1, full.feed(-1, -1, -1, -1, -1));
        unchanged("a feed too many", Twins.told(twin), Twins.told(full));
    }

    private static void asksRefused() {
        int[] hours = {-1, 24, FAR[0], FAR[1], 1};
        for (int h : hours) {
            leaves("bestOrder " + h, NO, x -> x.bestOrder(h, -1));
            leaves("price " + h, NO, x -> x.price(h));
            leaves("neighbour " + h, NO, x -> x.neighbour(h));
            leaves("gain " + h, NO, x -> x.gain(h, 3, 0));
            leaves("gain by " + h, NO, x -> x.gain(3, h, 1));
        }
        int[] far = {-2, 99, FAR[0], FAR[1]};
        for (int what : far) {
            leaves("bestOrder at " + what, NO, x -> x.bestOrder(3, what));
            leaves("gain, what " + what, NO, x -> x.gain(3, 4, what));
            leaves("bestSwap " + what, -1, x -> x.bestSwap(what));
            leaves("finesBy " + what, -1, x -> x.finesBy(what));
            leaves("touching " + what, -1, x -> x.touching(what, 3));
            leaves("hidden " + what, -3, x -> x.hidden(0, 24, 0, what));
            leaves("holds " + what, -1, x -> x.holds(what));
            leaves("guilty " + what, -1, x -> x.guilty(what));
            leaves("guest " + what, -1, x -> x.guest(0, 24, 5, what));
            leaves("count " + what, -1, x -> x.count(what));
            leaves("found " + what, -1, x -> x.found(0, 0, what));
            leaves("hourIs " + what, NO, x -> x.hourIs(0, what));
            leaves("value " + what, NO, x -> x.value(0, what));
        }
    }

    private static void onlyAsks() {
        BellHours one = Twins.palace();
        leaves("bestOrder", one.bestOrder(3, -1), x -> x.bestOrder(3, -1));
        leaves("bestOrder of three", one.bestOrder(0, 3), x -> x.bestOrder(0, 3));
        leaves("price", one.price(23), x -> x.price(23));
        leaves("neighbour", one.neighbour(4), x -> x.neighbour(4));
        leaves("gain", one.gain(0, 23, 1), x -> x.gain(0, 23, 1));
        leaves("bestSwap", one.bestSwap(0), x -> x.bestSwap(0));
        leaves("finesBy 1", one.finesBy(1), x -> x.finesBy(1));
        leaves("hidden", one.hidden(0, 24, 4095, 3), x -> x.hidden(0, 24, 4095, 3));
        leaves("holds", one.holds(3), x -> x.holds(3));
        leaves("guilty", one.guilty(2), x -> x.guilty(2));
        leaves("guest", one.guest(2, 20, 9999, 7), x -> x.guest(2, 20, 9999, 7));
        leaves("touching", one.touching(0, 7), x -> x.touching(0, 7));
    }

    private static void undoRefused() {
        BellHours had = new BellHours();
        BellHours without = new BellHours();
        for (int h = 0; h < 24; h++) {
            had.own(h, h % 12);
            without.own(h, h % 12);
        }
        had.seed(5);
        without.seed(5);
        EDGES.no("undo", had.undo());
        unchanged("undo", Twins.told(without), Twins.told(had));
    }
}

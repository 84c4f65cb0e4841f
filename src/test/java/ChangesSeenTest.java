import java.util.function.Consumer;

/** What was asked before a change is not told behind it: two palaces are changed alike, one of which was asked before. */
public final class ChangesSeenTest {
    private static final Due DUE = new Due("ChangesSeenTest");

    public static void main(String[] args) {
        seen("own", x -> x.own(4, 9));
        seen("own, nobody's", x -> x.own(4, -1));
        seen("room", x -> x.room(2, 99, 98, 97));
        seen("law 0", x -> Due.law(x, 0, "w9(t>r);s2(1=1);f1(s>40);c3(1=1)"));
        seen("law 1", x -> Due.law(x, 1, "fd(1=1)"));
        seen("act", x -> x.act(7, 1, 2, 50));
        seen("noActs", x -> x.noActs(7));
        seen("swap", x -> x.swap(0, 23));
        seen("tillNone", x -> x.tillNone());
        seen("searches", x -> x.searches(7, 1));
        seen("says", x -> x.says(4, 0));
        seen("dies", x -> x.dies(7));
        seen("seed and draw", x -> {
            x.seed(4);
            x.draw(12);
        });
        seen("keep, own", x -> {
            x.keep();
            x.own(0, 11);
        });
        seen("undo", x -> x.undo());
        DUE.end();
    }

    /** A FAULT empties the tape; nothing is asked of a DAY by it. */
    private static BellHours withoutTape() {
        BellHours x = Twins.palace();
        DUE.is("a FAULT", -1013, x.law(1, 13));
        return x;
    }

    private static void seen(String change, Consumer<BellHours> one) {
        BellHours fresh = withoutTape();
        one.accept(fresh);
        BellHours asked = withoutTape();
        // Little is asked: the calls of one palace are counted.
        asked.hourIs(23, 1);
        asked.bestSwap(0);
        asked.finesBy(1);
        asked.price(0);
        asked.bestOrder(0, -1);
        asked.hidden(0, 24, 4095, 3);
        asked.holds(2);
        one.accept(asked);
        int[] due = Twins.told(fresh);
        DUE.is(change + " is not seen at", -1, Twins.firstUnlike(due, Twins.told(asked)));
        BellHours still = withoutTape();
        DUE.yes(change + " changes something", Twins.firstUnlike(due, Twins.told(still)) >= 0);
    }
}

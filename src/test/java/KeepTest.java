/** Promises 29 to 32: KEPT and UNDONE, CHECKED, counted. */
public final class KeepTest {
    private static final Due DUE = new Due("KeepTest");

    public static void main(String[] args) {
        undoneAsKept();
        whatIsNotKept();
        check();
        checkRefused();
        count();
        DUE.end();
    }

    private static BellHours some() {
        BellHours x = new BellHours();
        x.own(0, 1);
        x.own(5, 2);
        x.room(3, 40, 5, 6);
        x.act(1, 0, 3, 7);
        x.act(2, 0, 3, 9);
        x.seed(77);
        Due.law(x, 0, "s0-a(1=1);wa(1=1)");
        return x;
    }

    private static void undoneAsKept() {
        BellHours x = some();
        DUE.no("none was KEPT", x.undo());
        DUE.is("still there", 2, x.count(4));
        DUE.is("KEPT", 2, x.keep());
        x.own(0, -1);
        x.own(9, 9);
        x.room(3, 1, 1, 1);
        x.noActs(1);
        x.act(1, 5, 5, 5);
        x.act(2, 5, 5, 5);
        x.draw(3);
        DUE.yes("UNDONE", x.undo());
        DUE.is("HOURS", 2, x.count(4));
        DUE.is("of 0", 1, x.hourIs(0, 0));
        DUE.is("of 9", 12, x.hourIs(9, 0));
        DUE.is("X", 77, x.count(3));
        DUE.is("ACTS of 1", 1, x.count(11));
        DUE.is("ACTS of 2", 1, x.count(12));
        DUE.is("the ACT of 1", 7, x.hourIs(0, 1));
        DUE.is("store", 40, x.found(0, 3, 0));
        DUE.is("heat", 6, x.found(0, 3, 2));
        DUE.is("the end", 40 - 7 - 9, x.found(24, 3, 0));
        x.dies(1);
        x.tillNone();
        DUE.yes("UNDONE again", x.undo());
        DUE.is("of 0", 1, x.hourIs(0, 0));
        DUE.is("ACTS of 1", 1, x.count(11));
        x.own(7, 7);
        DUE.is("KEPT anew", 3, x.keep());
        x.own(7, -1);
        DUE.yes("as KEPT last", x.undo());
        DUE.is("of 7", 7, x.hourIs(7, 0));
    }

    private static void whatIsNotKept() {
        BellHours x = some();
        x.keep();
        x.says(0, 1);
        x.searches(1, 255);
        Due.law(x, 0, "w3(1=1)");
        x.feed(1, 2, 3, 4, 5);
        DUE.yes("UNDONE", x.undo());
        DUE.is("a word", 1, x.count(30));
        DUE.is("SEARCHES", -2, x.hidden(0, 1, 0, -1));
        DUE.is("a LAW", 3, x.hourIs(0, 1));
        DUE.is("the tape", 20, x.count(2));
        x.dies(1);
        x.undo();
        DUE.is("SEARCHES that fell", 0, x.hidden(0, 1, 0, -1));
    }

    private static void check() {
        BellHours x = some();
        x.room(0, 99, 0, 0);
        x.room(7, 11, 0, 0);
        x.feed(99, 0, 0, 33, 0);
        x.feed(0, 0, 11, 0, 0);
        DUE.is("right", -1, x.check(1, 8));
        DUE.is("empty then", 0, x.count(2));
        x.feed(99, 0, 0, 40, 0);
        DUE.is("HOUR 1 does not find it so", 3, x.check(1, 5));
        DUE.is("empty then", 0, x.count(2));
        x.feed(99, 0, 0, 40, 0);
        DUE.is("HOUR 0 does", -1, x.check(0, 5));
        x.feed(98, 1, 0, 40, 0);
        DUE.is("the first of two", 0, x.check(0, 5));
        x.feed(99, 0, 1, 41, 0);
        DUE.is("what is not asked", -1, x.check(0, 2));
        x.feed(99 + 256, 0, 0, 0, 0);
        DUE.is("all four bytes count", 0, x.check(0, 1));
        x.feed(Integer.MIN_VALUE + 99, 0, 0, 0, 0);
        DUE.is("the highest one, too", 0, x.check(0, 1));
        x.feed(1, 2, 3, 4, 5);
        DUE.is("of no numbers", -1, x.check(23, 0));
        DUE.is("empty then", 0, x.count(2));
        x.feed(99, 0, 0, 24, 0);
        DUE.is("HOUR 23", -1, x.check(23, 4));
    }

    private static void checkRefused() {
        BellHours x = some();
        x.feed(0, 0, 0, 40, 0);
        DUE.is("no HOUR 24", -2, x.check(24, 1));
        DUE.is("no HOUR -1", -2, x.check(-1, 1));
        DUE.is("nine", -2, x.check(0, 9));
        DUE.is("-1", -2, x.check(0, -1));
        DUE.is("it has not so many", -2, x.check(0, 6));
        DUE.is("far", -2, x.check(0, Integer.MAX_VALUE));
        DUE.is("far", -2, x.check(0, 1 << 30));
        DUE.is("far", -2, x.check(0, Integer.MIN_VALUE));
        DUE.is("far", -2, x.check(Integer.MIN_VALUE, 0));
        DUE.is("the tape stays", 20, x.count(2));
        DUE.is("right", -1, x.check(0, 5));
    }

    private static void count() {
        BellHours x = some();
        DUE.is("CLAUSES of LAW 0", 2, x.count(0));
        DUE.is("CLAUSES of LAW 1", 0, x.count(1));
        Due.law(x, 1, "n(1=1);n(1=1);n(1=1)");
        DUE.is("CLAUSES of LAW 1", 3, x.count(1));
        x.feed(0, 0, 0, 0, 0);
        DUE.is("the tape", 20, x.count(2));
        DUE.is("X", 77, x.count(3));
        DUE.is("HOURS", 2, x.count(4));
        DUE.is("ACTS of 0", 0, x.count(10));
        x.act(0, 0, 0, 0);
        x.act(11, 0, 0, 0);
        x.act(11, 0, 0, 0);
        DUE.is("ACTS of 0", 1, x.count(10));
        DUE.is("ACTS of 11", 2, x.count(21));
        x.says(0, 0);
        x.says(23, 1);
        DUE.is("the WORD of 0", 0, x.count(30));
        DUE.is("the WORD of 1", 2, x.count(31));
        DUE.is("the WORD of 23", 1, x.count(53));
        int[] others = {-1, 5, 9, 22, 29, 54, Integer.MIN_VALUE, Integer.MAX_VALUE};
        for (int what : others) {
            DUE.is("count(" + what + ")", -1, x.count(what));
        }
    }
}

/** Edges of BEST ORDER, PRICE, NEIGHBOUR, GAIN, SWAPS, LAWS compared: promises 11 to 18. */
public final class EdgesOfTradeTest {
    private static final Edges EDGES = new Edges("EdgesOfTradeTest");
    private static final int NO = -1000000;
    private static final int[] FAR = {Integer.MIN_VALUE, Integer.MIN_VALUE + 1, -65536, -256, 256, 65536, Integer.MAX_VALUE};

    public static void main(String[] args) {
        mostOfThatHourAlone();
        leastRow();
        bestOrder();
        ifTheHourWereNobodys();
        price();
        ifTheHourAheadWereNobodys();
        neighbour();
        moreOrLess();
        gain();
        swap();
        bothGain();
        ofLikeOnes();
        bestSwap();
        tenAtMost();
        tillNone();
        lawsCompared();
        finesBy();
        EDGES.end();
    }

    private static void row(BellHours x, int hour, int... due) {
        for (int i = 0; i < due.length; i++) {
            EDGES.is("at " + i, due[i], x.bestOrder(hour, i));
        }
    }

    /** OWNER 3 with so many ACTS, told apart by their AMOUNTS 0, 1, 2 .. */
    private static BellHours withActs(int acts, int... hours) {
        BellHours x = new BellHours();
        for (int hour : hours) {
            x.own(hour, 3);
        }
        for (int i = 0; i < acts; i++) {
            x.act(3, 0, 0, i);
        }
        return x;
    }

    private static void mostOfThatHourAlone() {
        EDGES.words("Terms", "its OWNER's ACTS in the order by which worths less FINES of that HOUR alone are most "
            + "(from what it finds)");
        BellHours x = withActs(2, 0, 1);
        Due.law(x, 0, "s0-60(a=0);s60(a=1);w1(t=0&a=0&s=60);w500(t=1&a=1&s=60)");
        EDGES.is("that HOUR alone", 1, x.bestOrder(0, -1));
        row(x, 0, 1, 0);
        EDGES.is("from what HOUR 1 finds", 500, x.bestOrder(1, -1));
        row(x, 1, 1, 0);
        x.own(0, -1);
        EDGES.is("from what it finds behind nobody's", 0, x.bestOrder(1, -1));
        row(x, 1, 0, 1);
        BellHours y = withActs(2, 23);
        Due.law(y, 0, "d9(a=0);d0-9(a=1);f1(d>0);w1(1=1)");
        EDGES.is("FINES of all ROOMS", 2, y.bestOrder(23, -1));
        row(y, 23, 0, 1);
        Due.law(y, 0, "d9(a=1);d0-9(a=0);f1(d>0);w1(1=1)");
        EDGES.is("FINES count", 2, y.bestOrder(23, -1));
        row(y, 23, 1, 0);
        Due.law(y, 0, "h9(a=0);h0-9(a=1);f1(h>5);c9(1=1)");
        EDGES.is("FINES are ahead of the cooling", 0, y.bestOrder(23, -1));
        row(y, 23, 0, 1);
        Due.law(y, 1, "f9(1=1);w9(1=1)");
        EDGES.is("LAW 1 is not asked", 0, y.bestOrder(23, -1));
        Due.law(y, 0, "n(d=0&a=1);d1(1=1);w7(1=1)");
        EDGES.is("all can be done", 14, y.bestOrder(23, -1));
        row(y, 23, 0, 1);
        Due.law(y, 0, "n(d=0&a=0);d1(1=1);w7(1=1)");
        EDGES.is("all can be done", 14, y.bestOrder(23, -1));
        row(y, 23, 1, 0);
        EDGES.is("in its own order one is not", 1, y.hourIs(23, 3));
    }

    private static void leastRow() {
        EDGES.words("Terms", "of like ones the least row");
        BellHours x = withActs(5, 0);
        EDGES.is("without a LAW", 0, x.bestOrder(0, -1));
        row(x, 0, 0, 1, 2, 3, 4);
        Due.law(x, 0, "d1(1=1);w5(d=0&a=2)");
        EDGES.is("2 first", 5, x.bestOrder(0, -1));
        row(x, 0, 2, 0, 1, 3, 4);
        Due.law(x, 0, "d1(1=1);w5(d=4&a=0)");
        EDGES.is("0 last", 5, x.bestOrder(0, -1));
        row(x, 0, 1, 2, 3, 4, 0);
        Due.law(x, 0, "d1(1=1);w5(d+a=4)");
        EDGES.is("the last of all rows", 25, x.bestOrder(0, -1));
        row(x, 0, 4, 3, 2, 1, 0);
        Due.law(x, 0, "d1(1=1);w5(d=a)");
        EDGES.is("the first of all rows", 25, x.bestOrder(0, -1));
        row(x, 0, 0, 1, 2, 3, 4);
        Due.law(x, 0, "d1(1=1);w5(d=0&a>2)");
        EDGES.is("3 or 4 first", 5, x.bestOrder(0, -1));
        row(x, 0, 3, 0, 1, 2, 4);
        Due.law(x, 0, "f999(1=1)");
        EDGES.is("all below 0", -7992, x.bestOrder(0, -1));
        row(x, 0, 0, 1, 2, 3, 4);
    }

    private static void bestOrder() {
        EDGES.words("Promise 11", "BEST ORDER, what NONE what it comes to, else the ACT at place what; -1000000: no "
            + "such ones, nobody's, no such place.");
        int[] hours = {0, 23};
        for (int acts = 0; acts <= 5; acts++) {
            for (int hour : hours) {
                bestOrderOf(acts, hour);
            }
        }
    }

    private static void bestOrderOf(int acts, int hour) {
        BellHours x = withActs(acts, hour);
        Due.law(x, 0, "d1(1=1);wd*a(1=1)");
        int due = 0;
        for (int i = 0; i < acts; i++) {
            due += i * i;
        }
        EDGES.is(acts + " ACTS at " + hour, due, x.bestOrder(hour, -1));
        for (int i = 0; i < acts; i++) {
            EDGES.is("place " + i, i, x.bestOrder(hour, i));
        }
        EDGES.is("no place " + acts, NO, x.bestOrder(hour, acts));
        EDGES.is("no place -2", NO, x.bestOrder(hour, -2));
        EDGES.is("nobody's", NO, x.bestOrder(1, -1));
        EDGES.is("nobody's, a place", NO, x.bestOrder(22, 0));
        EDGES.is("HOUR -1", NO, x.bestOrder(-1, -1));
        EDGES.is("HOUR 24", NO, x.bestOrder(24, -1));
        for (int far : FAR) {
            EDGES.is("no place " + far, NO, x.bestOrder(hour, far));
            EDGES.is("HOUR " + far, NO, x.bestOrder(far, -1));
        }
    }

    private static void ifTheHourWereNobodys() {
        EDGES.words("Terms", "PRICE of an HOUR: VALUE of its OWNER less what it would be if the HOUR were nobody's");
        BellHours x = Edges.owned(3);
        x.act(3, 0, 0, 40);
        Due.law(x, 0, "wa(1=1);f2(1=1)");
        EDGES.is("the only HOUR: all of its VALUE", 40 - 16, x.price(0));
        Due.law(x, 0, "f2(1=1)");
        EDGES.is("below 0", -16, x.price(0));
        Due.law(x, 0, "sa(1=1);ws(1=1)");
        x.own(1, 4);
        x.own(2, 3);
        EDGES.is("it finds less later on: 0 + 40, else 0", 40, x.price(0));
        EDGES.is("the last of them", 40, x.price(2));
        EDGES.is("an OWNER without ACTS", 0, x.price(1));
        Due.law(x, 0, "w10(p=3);w1(p=12);w100(p=4)");
        EDGES.is("who is ahead is seen: 1 + 100, else 1", 100, x.price(2));
        x.own(1, 3);
        EDGES.is("1 + 10 + 10, else 1 + 1", 19, x.price(1));
        x.own(23, 3);
        EDGES.is("HOUR 0 sees 23: 10 + 10 + 10 + 1, else 1 + 10 + 10", 10, x.price(23));
        EDGES.is("of HOUR 0: 31, else 1 + 10 + 1", 19, x.price(0));
        x.room(0, 0, 0, 99);
        Due.law(x, 0, "wh/10(1=1);c50(o=12)");
        EDGES.is("nobody's HOUR cools, too: 9 + 9 + 9, else 4 + 4", 27 - 8, x.price(0));
    }

    private static void price() {
        EDGES.words("Promise 12", "PRICE; -1000000: no such HOUR, nobody's.");
        BellHours x = new BellHours();
        x.own(0, 0);
        x.own(23, 11);
        x.act(0, 0, 0, 5);
        x.act(11, 0, 0, 6);
        Due.law(x, 0, "wa(1=1)");
        EDGES.is("HOUR 0", 5, x.price(0));
        EDGES.is("HOUR 23", 6, x.price(23));
        EDGES.is("nobody's", NO, x.price(1));
        EDGES.is("HOUR -1", NO, x.price(-1));
        EDGES.is("HOUR 24", NO, x.price(24));
        for (int far : FAR) {
            EDGES.is("HOUR " + far, NO, x.price(far));
        }
        EDGES.is("the HOURS stay", 2, x.count(4));
    }

    private static void ifTheHourAheadWereNobodys() {
        EDGES.words("Terms", "NEIGHBOUR: worths less FINES of an HOUR less what they would be if the HOUR ahead of it "
            + "(of HOUR 0: none, 0) were nobody's");
        BellHours x = Edges.owned(0, 1, 1, -1, 0);
        x.own(22, 0);
        x.own(23, 1);
        x.act(0, 0, 0, 9);
        x.act(1, 1, 0, 0);
        Due.law(x, 0, "sa(k=0);ws%50(k=1);f1(s>50&r=0)");
        EDGES.is("of HOUR 0", 0, x.neighbour(0));
        EDGES.is("of HOUR 1", 9, x.neighbour(1));
        EDGES.is("one OWNER in both", 0, x.neighbour(2));
        EDGES.is("behind nobody's", 0, x.neighbour(4));
        EDGES.is("of HOUR 23", 9, x.neighbour(23));
        Due.law(x, 0, "w5(p=12);w1(p<12);f3(p=1)");
        EDGES.is("of HOUR 0 though 23 is seen", 0, x.neighbour(0));
        EDGES.is("who is ahead is seen: 1, else 5", -4, x.neighbour(1));
        EDGES.is("FINES, too: 1 - 24, else 5", -28, x.neighbour(2));
        EDGES.is("the HOUR alone, not the VALUE", -4, x.neighbour(23));
    }

    private static void neighbour() {
        EDGES.words("Promise 13", "NEIGHBOUR; -1000000: no such HOUR, nobody's.");
        BellHours x = Edges.owned(0, 1);
        x.own(23, 2);
        EDGES.is("HOUR 0", 0, x.neighbour(0));
        EDGES.is("HOUR 1", 0, x.neighbour(1));
        EDGES.is("HOUR 23", 0, x.neighbour(23));
        EDGES.is("nobody's", NO, x.neighbour(2));
        EDGES.is("HOUR -1", NO, x.neighbour(-1));
        EDGES.is("HOUR 24", NO, x.neighbour(24));
        for (int far : FAR) {
            EDGES.is("HOUR " + far, NO, x.neighbour(far));
        }
        x.own(0, -1);
        EDGES.is("HOUR 0 of nobody", NO, x.neighbour(0));
        EDGES.is("the HOURS stay", 2, x.count(4));
    }

    private static void moreOrLess() {
        EDGES.words("Terms", "GAIN by SWAPPING two HOURS: how much more (or less) VALUE the OWNER of each has then");
        BellHours x = Edges.owned(0, -1, -1, -1, -1, 0, -1, 1);
        x.act(0, 0, 0, 0);
        x.act(1, 1, 0, 0);
        Due.law(x, 0, "wt(k=0);w40-t(k=1);f1(t=0)");
        EDGES.is("FINES and worths of HOURS ahead stay", 2, x.gain(5, 7, 0));
        EDGES.is("of the other one", 2, x.gain(5, 7, 1));
        EDGES.is("FINES go with the HOUR: 7, but 8 less", 7 + 8, x.gain(0, 7, 0));
        EDGES.is("FINES come with the HOUR: 7, but 8 less", 7 - 8, x.gain(0, 7, 1));
        Due.law(x, 0, "w9(p=0);w5(p=1);w1(p=12)");
        x.own(6, 1);
        x.own(23, 1);
        EDGES.is("who is ahead is seen: 5 + 5, was 5 + 1", 4, x.gain(5, 6, 0));
        EDGES.is("also of the HOUR behind: 1 + 9 + 1, was 9 + 5 + 1", -4, x.gain(5, 6, 1));
        BellHours y = new BellHours();
        y.own(0, 0);
        y.own(23, 1);
        y.act(0, 0, 0, 0);
        y.act(1, 0, 0, 0);
        Due.law(y, 0, "wp(t=0);w20(t=23)");
        EDGES.is("HOUR 0 and 23: 20 in place of 1", 19, y.gain(0, 23, 0));
        EDGES.is("HOUR 0 and 23: 0 in place of 20", -20, y.gain(0, 23, 1));
        EDGES.is("turned round", -20, y.gain(23, 0, 0));
    }

    private static void gain() {
        EDGES.words("Promise 14", "GAIN of the OWNER of HOUR a (what 0), of b (1); -1000000: no such ones, nobody's, "
            + "of one OWNER.");
        BellHours x = Edges.owned(0, 1, 0);
        x.own(23, 11);
        x.act(0, 0, 0, 0);
        x.act(11, 0, 0, 0);
        Due.law(x, 0, "wt(1=1)");
        EDGES.is("of a", 23, x.gain(0, 23, 0));
        EDGES.is("of b", -23, x.gain(0, 23, 1));
        int[][] wrong = {{0, 23, 2}, {0, 23, -1}, {-1, 23, 0}, {24, 23, 0}, {0, -1, 0}, {0, 24, 0}, {0, 3, 0}, {3, 0, 0},
            {3, 4, 0}, {0, 2, 0}, {2, 0, 1}, {0, 0, 0}, {3, 3, 0}};
        for (int[] w : wrong) {
            EDGES.is("gain " + w[0] + " " + w[1] + " " + w[2], NO, x.gain(w[0], w[1], w[2]));
        }
        for (int far : FAR) {
            EDGES.is("HOUR a " + far, NO, x.gain(far, 0, 0));
            EDGES.is("HOUR b " + far, NO, x.gain(0, far, 0));
            EDGES.is("what " + far, NO, x.gain(0, 23, far));
        }
        EDGES.is("the HOURS stay", 0, x.hourIs(0, 0));
        EDGES.is("the HOURS stay", 11, x.hourIs(23, 0));
    }

    private static void swap() {
        EDGES.words("Promise 15", "Two HOURS are SWAPPED (also nobody's): true; false: no such ones, one twice.");
        BellHours x = Edges.owned(5);
        x.own(23, 6);
        EDGES.yes("the first and the last", x.swap(0, 23));
        EDGES.is("HOUR 0", 6, x.hourIs(0, 0));
        EDGES.is("HOUR 23", 5, x.hourIs(23, 0));
        EDGES.yes("with nobody's", x.swap(7, 0));
        EDGES.is("nobody's then", 12, x.hourIs(0, 0));
        EDGES.is("HOUR 7", 6, x.hourIs(7, 0));
        EDGES.yes("two of nobody", x.swap(1, 2));
        x.own(8, 6);
        EDGES.yes("two of one OWNER", x.swap(7, 8));
        EDGES.no("one twice", x.swap(7, 7));
        EDGES.no("nobody's twice", x.swap(1, 1));
        EDGES.no("HOUR -1", x.swap(-1, 7));
        EDGES.no("HOUR 24", x.swap(7, 24));
        EDGES.no("HOUR 24 twice", x.swap(24, 24));
        for (int far : FAR) {
            EDGES.no("HOUR a " + far, x.swap(far, 7));
            EDGES.no("HOUR b " + far, x.swap(7, far));
        }
        EDGES.is("HOUR 7", 6, x.hourIs(7, 0));
        EDGES.is("three in all", 3, x.count(4));
    }

    /** OWNER 0 likes late HOURS, OWNER 1 early ones. */
    private static BellHours earlyAndLate() {
        BellHours x = new BellHours();
        x.act(0, 0, 0, 0);
        x.act(1, 1, 0, 0);
        Due.law(x, 0, "wt(k=0);w23-t(k=1)");
        return x;
    }

    private static void bothGain() {
        EDGES.words("Terms", "BEST SWAP: of two HOURS of different OWNERS by which both gain: most together");
        BellHours x = earlyAndLate();
        x.own(0, 0);
        x.own(23, 1);
        EDGES.is("the first and the last", 0, x.bestSwap(0));
        EDGES.is("the first and the last", 23, x.bestSwap(1));
        EDGES.is("most", 46, x.bestSwap(2));
        Due.law(x, 0, "w10*t(k=0);w5(k=1)");
        EDGES.is("one gains much, one nothing", -2, x.bestSwap(2));
        Due.law(x, 0, "w5(k=0);w10*[23-t](k=1)");
        EDGES.is("one gains nothing, one much", -2, x.bestSwap(2));
        Due.law(x, 0, "w10*t(k=0);w5+t/23(k=1)");
        EDGES.is("one gains much, one loses 1", -2, x.bestSwap(2));
        Due.law(x, 0, "w10*t(k=0);w5-t/23(k=1)");
        EDGES.is("one gains much, one 1", 231, x.bestSwap(2));
        Due.law(x, 0, "wt/23(k=0);w1-t/23(k=1)");
        EDGES.is("each gains 1", 2, x.bestSwap(2));
        x.own(23, -1);
        EDGES.is("with nobody's none is made", -2, x.bestSwap(2));
        x.own(23, 0);
        EDGES.is("of one OWNER", -2, x.bestSwap(2));
    }

    private static void ofLikeOnes() {
        EDGES.words("Terms", "of like ones the lower first, then second HOUR");
        BellHours x = earlyAndLate();
        Due.law(x, 0, "w5(k=0&t>9);w5(k=1&t<10)");
        int[] of0 = {8, 4, 6};
        int[] of1 = {22, 12, 17};
        for (int i = 0; i < 3; i++) {
            x.own(of0[i], 0);
            x.own(of1[i], 1);
        }
        EDGES.is("the lower first", 4, x.bestSwap(0));
        EDGES.is("the lower second", 12, x.bestSwap(1));
        EDGES.is("together", 10, x.bestSwap(2));
        Due.law(x, 0, "w6(k=0&t=22);w5(k=0&t>9);w5(k=1&t<10)");
        EDGES.is("more goes ahead of the lower second", 22, x.bestSwap(1));
        EDGES.is("the lower first", 4, x.bestSwap(0));
        Due.law(x, 0, "w5(k=0&t>9);w6(k=1&t=8);w5(k=1&t<10)");
        EDGES.is("more goes ahead of the lower first", 8, x.bestSwap(0));
        EDGES.is("the lower second", 12, x.bestSwap(1));
    }

    private static void bestSwap() {
        EDGES.words("Promise 16", "BEST SWAP, what 0, 1 the HOURS, 2 both gains together; -2: there is none; NONE: no "
            + "such what.");
        BellHours x = earlyAndLate();
        for (int what = 0; what < 3; what++) {
            EDGES.is("none is owned", -2, x.bestSwap(what));
        }
        x.own(2, 0);
        x.own(3, 1);
        EDGES.is("HOUR", 2, x.bestSwap(0));
        EDGES.is("HOUR", 3, x.bestSwap(1));
        EDGES.is("together", 2, x.bestSwap(2));
        EDGES.is("what 3", -1, x.bestSwap(3));
        EDGES.is("what -1", -1, x.bestSwap(-1));
        for (int far : FAR) {
            EDGES.is("what " + far, -1, x.bestSwap(far));
        }
        EDGES.is("the HOURS stay", 0, x.hourIs(2, 0));
        x.swap(2, 3);
        for (int what = 0; what < 3; what++) {
            EDGES.is("none gains", -2, x.bestSwap(what));
        }
        EDGES.is("what 3 if there is none", -1, x.bestSwap(3));
    }

    private static BellHours manySwaps(int pairs) {
        BellHours x = earlyAndLate();
        for (int i = 0; i < pairs; i++) {
            x.own(i, 0);
            x.own(23 - i, 1);
        }
        return x;
    }

    private static void tenAtMost() {
        EDGES.words("Terms", "TILL NONE: BEST SWAPS are made, 10 at most");
        for (int pairs = 0; pairs <= 12; pairs++) {
            BellHours x = manySwaps(pairs);
            EDGES.is(pairs + " pairs", Math.min(10, pairs), x.tillNone());
            EDGES.is("what is left", pairs > 10 ? 10 : -2, x.bestSwap(0));
            EDGES.is("the rest", Math.max(0, pairs - 10), x.tillNone());
            for (int i = 0; i < pairs; i++) {
                EDGES.is("HOUR " + i, 1, x.hourIs(i, 0));
                EDGES.is("HOUR " + (23 - i), 0, x.hourIs(23 - i, 0));
            }
        }
    }

    private static void tillNone() {
        EDGES.words("Promise 17", "TILL NONE: how many are made.");
        EDGES.is("of a new palace", 0, new BellHours().tillNone());
        BellHours x = manySwaps(1);
        EDGES.is("one", 1, x.tillNone());
        EDGES.is("none more", 0, x.tillNone());
        EDGES.is("its HOUR", 23, x.value(0, 0));
        EDGES.is("the other one's", 23, x.value(1, 0));
        x.noActs(0);
        x.noActs(1);
        EDGES.is("without ACTS", 0, x.tillNone());
    }

    private static void lawsCompared() {
        EDGES.words("Terms", "LAWS compared: FINES of all HOURS together in a DAY, ACTS as by LAW 0, FINES (f) by LAW "
            + "0 or 1.");
        BellHours x = Edges.owned(0, 1, -1);
        x.own(23, 1);
        x.act(0, 0, 0, 0);
        x.act(1, 1, 0, 0);
        x.room(0, 0, 0, 90);
        Due.law(x, 0, "d10(k=0);n(k=1);d50(1=1);c30(1=1);f1(r=0)");
        Due.law(x, 1, "n(k=0);d99(1=1);c1(1=1);fd+h(r=0);w9(1=1)");
        EDGES.is("by LAW 0", 3, x.finesBy(0));
        EDGES.is("by LAW 1", (10 + 90) + (10 + 60) + 10, x.finesBy(1));
        EDGES.is("runs go by LAW 0 still", 3, x.finesBy(0));
        EDGES.is("worths by LAW 0", 0, x.value(0, 1));
        EDGES.is("FINES of a run by LAW 0", 1, x.hourIs(0, 2));
    }

    private static void finesBy() {
        EDGES.words("Promise 18", "LAWS compared: FINES by LAW w; NONE: no such one.");
        BellHours x = Edges.owned(0);
        EDGES.is("no LAW 0 yet", 0, x.finesBy(0));
        EDGES.is("no LAW 1 yet", 0, x.finesBy(1));
        Due.law(x, 1, "f999(1=1)");
        EDGES.is("LAW 1 alone", 7992, x.finesBy(1));
        EDGES.is("LAW 0 has none", 0, x.finesBy(0));
        for (int h = 0; h < 24; h++) {
            x.own(h, h % 12);
        }
        EDGES.is("the most that can be", 24 * 7992, x.finesBy(1));
        EDGES.is("LAW -1", -1, x.finesBy(-1));
        EDGES.is("LAW 2", -1, x.finesBy(2));
        for (int far : FAR) {
            EDGES.is("LAW " + far, -1, x.finesBy(far));
        }
    }
}

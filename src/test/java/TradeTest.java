/** Promises 11 to 18: BEST ORDER, PRICE, NEIGHBOUR, GAIN, SWAPS, LAWS compared. */
public final class TradeTest {
    private static final Due DUE = new Due("TradeTest");
    private static final int NO = -1000000;
    private static final int[] FAR = {Integer.MIN_VALUE, Integer.MAX_VALUE};

    public static void main(String[] args) {
        bestOrder();
        everyRow();
        price();
        neighbour();
        gain();
        swap();
        bestSwap();
        tillNone();
        atMostTen();
        finesBy();
        wrongInputs();
        DUE.end();
    }

    private static void bestOrder() {
        BellHours x = new BellHours();
        x.own(7, 2);
        int[] amounts = {30, 10, 20, 5, 1};
        for (int amount : amounts) {
            x.act(2, 0, 3, amount);
        }
        Due.law(x, 0, "sa(1=1);w1(1=1)");
        DUE.is("all like", 5, x.bestOrder(7, -1));
        for (int i = 0; i < 5; i++) {
            DUE.is("the least row", i, x.bestOrder(7, i));
        }
        Due.law(x, 0, "d1(1=1);wd*a(1=1)");
        DUE.is("the dearest last", 1 * 5 + 2 * 10 + 3 * 20 + 4 * 30, x.bestOrder(7, -1));
        int[] best = {4, 3, 1, 2, 0};
        for (int i = 0; i < 5; i++) {
            DUE.is("at " + i, best[i], x.bestOrder(7, i));
        }
        DUE.is("no sixth place", NO, x.bestOrder(7, 5));
        DUE.is("the order of the ACTS stays", 10 * 1 + 20 * 2 + 5 * 3 + 1 * 4, x.hourIs(7, 1));
        x.room(3, 0, 90, 0);
        DUE.is("from what it finds", 999 + 999 + 92 * 1 + 93 * 5 + 94 * 10, x.bestOrder(7, -1));
        Due.law(x, 0, "d0-99(a=30);d5(a<30);fd*9(1=1);w1(1=1)");
        x.room(3, 0, 0, 0);
        DUE.is("fines count", 5, x.bestOrder(7, -1));
        int[] last = {1, 2, 3, 4, 0};
        for (int i = 0; i < 5; i++) {
            DUE.is("at " + i, last[i], x.bestOrder(7, i));
        }
        Due.law(x, 0, "f3(1=1)");
        x.own(8, 3);
        DUE.is("without ACTS", -24, x.bestOrder(8, -1));
        DUE.is("without a place", NO, x.bestOrder(8, 0));
        DUE.is("nobody's", NO, x.bestOrder(9, -1));
        Due.law(x, 0, "n(d<3);w9(1=1);d1(1=1)");
        DUE.is("none can be done", 0, x.bestOrder(7, -1));
        DUE.is("the least row of them", 0, x.bestOrder(7, 0));
    }

    /** By a LAW that pays each ACT at one place alone, each of the 120 rows is the best one once. */
    private static void everyRow() {
        for (int code = 0; code < 3125; code++) {
            int[] row = {code / 625, code / 125 % 5, code / 25 % 5, code / 5 % 5, code % 5};
            int seen = 0;
            for (int act : row) {
                seen |= 1 << act;
            }
            if (seen == 31) {
                oneRow(row);
            }
        }
    }

    private static void oneRow(int[] row) {
        BellHours x = new BellHours();
        x.own(0, 11);
        StringBuilder test = new StringBuilder("1=2");
        for (int i = 0; i < 5; i++) {
            x.act(11, 0, 0, i);
            test.append("|d=").append(i).append("&a=").append(row[i]);
        }
        Due.law(x, 0, "d1(1=1);w9(" + test + ")");
        DUE.is("all five are paid", 45, x.bestOrder(0, -1));
        for (int i = 0; i < 5; i++) {
            DUE.is("at " + i, row[i], x.bestOrder(0, i));
        }
    }

    /** Each ACT takes 5 from the store of ROOM 0 and is worth what it found there. */
    private static BellHours eaters() {
        BellHours x = new BellHours();
        x.room(0, 20, 0, 0);
        x.act(0, 0, 0, 5);
        x.act(1, 0, 0, 5);
        Due.law(x, 0, "s0-a(1=1);ws(1=1)");
        return x;
    }

    private static void price() {
        BellHours x = eaters();
        x.own(0, 0);
        x.own(1, 1);
        x.own(2, 0);
        DUE.is("of 0: 20 + 10, else 15", 15, x.price(0));
        DUE.is("of 1", 15, x.price(1));
        DUE.is("of 2", 10, x.price(2));
        DUE.is("nobody's", NO, x.price(3));
        DUE.is("the HOUR stays", 0, x.hourIs(0, 0));
        Due.law(x, 0, "w100(p=12);w1(p<12)");
        x.own(23, 1);
        DUE.is("of 23: 1 + 100, else 1", 100, x.price(23));
        x.own(0, 1);
        DUE.is("HOUR 0 sees 23: 1 + 1 + 100, else 100 + 1", 1, x.price(23));
        Due.law(x, 0, "f5(1=1)");
        Due.law(x, 1, "f7(1=1)");
        DUE.is("fines by LAW 0", -40, x.price(23));
    }

    private static void neighbour() {
        BellHours x = eaters();
        x.own(0, 0);
        x.own(1, 1);
        x.own(2, 0);
        x.own(4, 1);
        DUE.is("of 0", 0, x.neighbour(0));
        DUE.is("of 1", -5, x.neighbour(1));
        DUE.is("of 2", -5, x.neighbour(2));
        DUE.is("behind nobody's", 0, x.neighbour(4));
        DUE.is("nobody's", NO, x.neighbour(3));
        x.own(23, 1);
        Due.law(x, 0, "w100(p=12);w1(p<12);f3(r=0&p=0)");
        DUE.is("of 0 though it sees 23", 0, x.neighbour(0));
        DUE.is("worths and fines: 1 - 3 less 100", -102, x.neighbour(1));
        DUE.is("of 23 behind nobody's", 0, x.neighbour(23));
    }

    private static void gain() {
        BellHours x = eaters();
        x.own(3, 0);
        x.own(5, 1);
        DUE.is("of the first", -5, x.gain(3, 5, 0));
        DUE.is("of the second", 5, x.gain(3, 5, 1));
        DUE.is("the day that was asked of before", 20, x.hourIs(3, 1));
        x.swap(3, 5);
        DUE.is("another one behind a swap", 15, x.value(0, 0));
        x.swap(3, 5);
        DUE.is("turned round", 5, x.gain(5, 3, 0));
        DUE.is("turned round", -5, x.gain(5, 3, 1));
        DUE.is("one HOUR", NO, x.gain(3, 3, 0));
        DUE.is("nobody's", NO, x.gain(3, 4, 0));
        DUE.is("nobody's", NO, x.gain(4, 3, 0));
        x.own(6, 0);
        DUE.is("of one OWNER", NO, x.gain(3, 6, 0));
        DUE.is("the HOURS stay", 0, x.hourIs(3, 0));
        DUE.is("all of its HOURS count: 20 + 10, then 15 + 10", -5, x.gain(3, 5, 0));
        Due.law(x, 0, "wp(t=0);w1(t>0)");
        x.own(0, 0);
        x.own(23, 1);
        DUE.is("HOUR 0 sees who has 23", -1, x.gain(23, 3, 1));
        DUE.is("and its new owner", 0, x.gain(23, 3, 0));
    }

    private static void swap() {
        BellHours x = new BellHours();
        x.own(0, 3);
        x.says(0, 1);
        DUE.yes("with nobody's", x.swap(0, 23));
        DUE.is("nobody's", 12, x.hourIs(0, 0));
        DUE.is("of 3", 3, x.hourIs(23, 0));
        DUE.yes("two of nobody", x.swap(4, 5));
        DUE.no("one twice", x.swap(23, 23));
        DUE.no("no such HOUR", x.swap(24, 0));
        DUE.no("no such HOUR", x.swap(0, -1));
        DUE.is("the word is the HOUR's", 1, x.count(30));
        DUE.is("one is owned", 1, x.count(4));
    }

    /** OWNER 0 likes late HOURS, OWNER 1 early ones. */
    private static BellHours earlyAndLate() {
        BellHours x = new BellHours();
        x.act(0, 0, 0, 0);
        x.act(1, 1, 0, 0);
        Due.law(x, 0, "wt(k=0);w23-t(k=1)");
        return x;
    }

    private static void bestSwap() {
        BellHours x = earlyAndLate();
        DUE.is("none is owned", -2, x.bestSwap(0));
        x.own(3, 0);
        x.own(4, 0);
        x.own(10, 1);
        DUE.is("the lower HOUR", 3, x.bestSwap(0));
        DUE.is("the higher one", 10, x.bestSwap(1));
        DUE.is("together", 14, x.bestSwap(2));
        x.own(11, 1);
        DUE.is("a better one", 11, x.bestSwap(1));
        DUE.is("together", 16, x.bestSwap(2));
        DUE.is("the HOURS stay", 0, x.hourIs(3, 0));
        x.noActs(1);
        DUE.is("both must gain", -2, x.bestSwap(0));
        DUE.is("both must gain", -2, x.bestSwap(2));
        DUE.is("no such what", -1, x.bestSwap(3));
        DUE.is("no such what", -1, x.bestSwap(-1));
        x.act(1, 1, 0, 0);
        Due.law(x, 0, "w5(k=0&t>9);w5(k=1&t<9)");
        Due.law(x, 0, "w5(k=0&t>9);w5(k=1)");
        DUE.is("one that gains nothing", -2, x.bestSwap(2));
        Due.law(x, 0, "w5(k=0);w5(k=1&t<9)");
        DUE.is("one that gains nothing", -2, x.bestSwap(2));
        Due.law(x, 0, "w5(k=0&t>9);w5(k=1&t<9)");
        DUE.is("of like ones the lower first", 3, x.bestSwap(0));
        DUE.is("of like ones the lower second", 10, x.bestSwap(1));
        DUE.is("together", 10, x.bestSwap(2));
    }

    private static void tillNone() {
        BellHours x = earlyAndLate();
        x.own(0, 0);
        x.own(1, 0);
        x.own(2, 0);
        x.own(20, 1);
        x.own(21, 1);
        DUE.is("two", 2, x.tillNone());
        int[] then = {1, 1, 0};
        for (int h = 0; h < 3; h++) {
            DUE.is("HOUR " + h, then[h], x.hourIs(h, 0));
        }
        DUE.is("HOUR 20", 0, x.hourIs(20, 0));
        DUE.is("HOUR 21", 0, x.hourIs(21, 0));
        DUE.is("none more", -2, x.bestSwap(0));
        DUE.is("none more", 0, x.tillNone());
        DUE.is("none at first", 0, new BellHours().tillNone());
    }

    private static void atMostTen() {
        BellHours x = earlyAndLate();
        for (int h = 0; h < 12; h++) {
            x.own(h, 0);
            x.own(12 + h, 1);
        }
        DUE.is("ten", 10, x.tillNone());
        DUE.is("one is left", 10, x.bestSwap(0));
        DUE.is("two are left", 2, x.tillNone());
    }

    private static void finesBy() {
        BellHours x = new BellHours();
        x.own(1, 0);
        x.own(2, 1);
        x.act(0, 0, 0, 7);
        x.act(1, 0, 0, 7);
        Due.law(x, 0, "da(1=1);f1(d>0);h50(1=1);ch/2(1=1)");
        Due.law(x, 1, "f0-1(r=1);fd+h(r=0);n(1=1);d99(1=1);c99(1=1)");
        DUE.is("by LAW 0", 2, x.finesBy(0));
        DUE.is("by LAW 1: ACTS and cooling as by LAW 0", 7 + 50 + 14 + 75, x.finesBy(1));
        DUE.is("runs go by LAW 0", 1, x.hourIs(1, 2));
        DUE.is("no LAW 2", -1, x.finesBy(2));
        DUE.is("no LAW -1", -1, x.finesBy(-1));
        x.own(1, -1);
        x.own(2, -1);
        DUE.is("no fines of nobody's", 0, x.finesBy(1));
        x.own(0, 5);
        x.own(23, 5);
        Due.law(x, 1, "f1+t(1=1)");
        DUE.is("the first HOUR and the last one", 8 + 8 * 24, x.finesBy(1));
    }

    private static void wrongInputs() {
        BellHours x = eaters();
        x.own(0, 0);
        x.own(1, 1);
        int[] hours = {-1, 24, FAR[0], FAR[1]};
        for (int h : hours) {
            DUE.is("bestOrder", NO, x.bestOrder(h, -1));
            DUE.is("price", NO, x.price(h));
            DUE.is("neighbour", NO, x.neighbour(h));
            DUE.is("gain", NO, x.gain(h, 0, 0));
            DUE.is("gain", NO, x.gain(0, h, 0));
            DUE.no("swap", x.swap(h, 0));
            DUE.no("swap", x.swap(0, h));
        }
        int[] whats = {-2, 5, FAR[0], FAR[1]};
        for (int what : whats) {
            DUE.is("bestOrder", NO, x.bestOrder(0, what));
            DUE.is("gain", NO, x.gain(0, 1, what));
            DUE.is("bestSwap", -1, x.bestSwap(what));
            DUE.is("finesBy", -1, x.finesBy(what));
        }
        DUE.is("gain by 2", NO, x.gain(0, 1, 2));
        DUE.is("gain by -1", NO, x.gain(0, 1, -1));
    }
}

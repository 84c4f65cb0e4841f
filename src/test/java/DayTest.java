/** Promises 1 to 3 and 6 to 10: HOURS, ROOMS, ACTS, and what a DAY tells. */
public final class DayTest {
    private static final Due DUE = new Due("DayTest");
    private static final int NO = -1000000;
    private static final int[] FAR = {Integer.MIN_VALUE, Integer.MAX_VALUE};

    public static void main(String[] args) {
        newObject();
        own();
        room();
        act();
        noActs();
        dayByHand();
        actsOfAll();
        notDone();
        whatIsSeen();
        value();
        wrongInputs();
        DUE.end();
    }

    private static void newObject() {
        BellHours x = new BellHours();
        for (int h = 0; h < 24; h++) {
            DUE.is("nobody's", 12, x.hourIs(h, 0));
            DUE.is("a word", 2, x.count(30 + h));
        }
        for (int r = 0; r < 8; r++) {
            for (int what = 0; what < 3; what++) {
                DUE.is("an empty room", 0, x.found(0, r, what));
                DUE.is("an empty room at the end", 0, x.found(24, r, what));
            }
        }
        for (int o = 0; o < 12; o++) {
            DUE.is("no acts", 0, x.count(10 + o));
            DUE.is("no value", 0, x.value(o, 0));
        }
        DUE.is("no LAW 0", 0, x.count(0));
        DUE.is("no LAW 1", 0, x.count(1));
        DUE.is("no tape", 0, x.count(2));
        DUE.is("the seed", 1, x.count(3));
        DUE.is("no hours", 0, x.count(4));
    }

    private static void own() {
        BellHours x = new BellHours();
        DUE.yes("own(0, 0)", x.own(0, 0));
        DUE.yes("own(23, 11)", x.own(23, 11));
        DUE.is("of 0", 0, x.hourIs(0, 0));
        DUE.is("of 23", 11, x.hourIs(23, 0));
        DUE.no("own(-1, 0)", x.own(-1, 0));
        DUE.no("own(24, 0)", x.own(24, 0));
        DUE.no("own(0, 12)", x.own(0, 12));
        DUE.no("own(0, -2)", x.own(0, -2));
        DUE.is("changed nothing", 0, x.hourIs(0, 0));
        DUE.is("two are owned", 2, x.count(4));
        DUE.yes("own(0, 5)", x.own(0, 5));
        DUE.is("another one's", 5, x.hourIs(0, 0));
        DUE.yes("own(0, NONE)", x.own(0, BellHours.NONE));
        DUE.is("nobody's", 12, x.hourIs(0, 0));
        DUE.is("one is owned", 1, x.count(4));
    }

    private static void room() {
        BellHours x = new BellHours();
        DUE.yes("room 0", x.room(0, 99, 0, 1));
        DUE.yes("room 7", x.room(7, 0, 99, 99));
        int[][] wrong = {{-1, 0, 0, 0}, {8, 0, 0, 0}, {0, -1, 0, 0}, {0, 100, 0, 0}, {0, 0, -1, 0}, {0, 0, 100, 0},
            {0, 0, 0, -1}, {0, 0, 0, 100}};
        for (int[] w : wrong) {
            DUE.no("a wrong room", x.room(w[0], w[1], w[2], w[3]));
        }
        DUE.is("store", 99, x.found(0, 0, 0));
        DUE.is("dirt", 0, x.found(0, 0, 1));
        DUE.is("heat", 1, x.found(0, 0, 2));
        DUE.is("dirt of 7", 99, x.found(0, 7, 1));
        DUE.is("heat of 7 at the end", 99, x.found(24, 7, 2));
    }

    private static void act() {
        BellHours x = new BellHours();
        int[][] wrong = {{-1, 0, 0, 0}, {12, 0, 0, 0}, {0, -1, 0, 0}, {0, 7, 0, 0}, {0, 0, -1, 0}, {0, 0, 8, 0},
            {0, 0, 0, -1}, {0, 0, 0, 100}};
        for (int[] w : wrong) {
            DUE.is("a wrong act", -1, x.act(w[0], w[1], w[2], w[3]));
        }
        for (int i = 1; i <= 5; i++) {
            DUE.is("act " + i, i, x.act(11, 6, 7, 99));
        }
        DUE.is("a sixth", -1, x.act(11, 0, 0, 0));
        DUE.is("of 11", 5, x.count(21));
        DUE.is("of 10", 0, x.count(20));
    }

    private static void noActs() {
        BellHours x = new BellHours();
        x.act(0, 0, 0, 0);
        x.act(0, 0, 0, 0);
        x.act(1, 0, 0, 0);
        DUE.is("noActs(-1)", -1, x.noActs(-1));
        DUE.is("noActs(12)", -1, x.noActs(12));
        DUE.is("noActs(0)", 2, x.noActs(0));
        DUE.is("noActs(0) again", 0, x.noActs(0));
        DUE.is("those of 1 stay", 1, x.count(11));
        DUE.is("a new first one", 1, x.act(0, 1, 1, 1));
    }

    /** Stores are eaten by 4, which makes dirt and heat; fines for dirt above 5; heat falls by 3 an hour. */
    private static void dayByHand() {
        BellHours x = new BellHours();
        x.room(2, 10, 1, 7);
        x.own(1, 6);
        x.own(3, 6);
        x.act(6, 0, 2, 4);
        x.act(6, 0, 2, 4);
        DUE.is("the law", 6, Due.law(x, 0, "s0-a(k=0);d3(s>4);hs(1=1);ws*2(1=1);fd(d>5);c3(1=1)"));
        DUE.is("heat at 1", 4, x.found(1, 2, 2));
        DUE.is("store at 2", 2, x.found(2, 2, 0));
        DUE.is("dirt at 2", 7, x.found(2, 2, 1));
        DUE.is("heat at 2", 4 + 10 + 6 - 3, x.found(2, 2, 2));
        DUE.is("worths of 1", 20 + 12, x.hourIs(1, 1));
        DUE.is("fines of 1", 7, x.hourIs(1, 2));
        DUE.is("heat at 3", 14, x.found(3, 2, 2));
        DUE.is("store at 4", 0, x.found(4, 2, 0));
        DUE.is("dirt at 4", 7, x.found(4, 2, 1));
        DUE.is("heat at 4", 14 + 2 + 0 - 3, x.found(4, 2, 2));
        DUE.is("worths of 3", 4, x.hourIs(3, 1));
        DUE.is("fines of 3", 7, x.hourIs(3, 2));
        DUE.is("no fines of nobody's", 0, x.hourIs(2, 2));
        DUE.is("heat at 8", 1, x.found(8, 2, 2));
        DUE.is("heat at 9", 0, x.found(9, 2, 2));
        DUE.is("heat at the end", 0, x.found(24, 2, 2));
        DUE.is("other rooms", 0, x.found(24, 3, 1));
        DUE.is("value", 32 + 4 - 14, x.value(6, 0));
        DUE.is("the rooms themselves stay", 10, x.found(0, 2, 0));
    }

    private static void actsOfAll() {
        BellHours x = new BellHours();
        Due.law(x, 0, "w[t*7+k]*8+r+a(1=1)");
        int[] sums = new int[12];
        for (int o = 0; o < 12; o++) {
            x.own(2 * o, o);
            for (int i = 0; i < 5; i++) {
                x.act(o, (o + i) % 7, (3 * o + i) % 8, 7 * o + i);
                sums[o] += Math.min(999, (14 * o + (o + i) % 7) * 8 + (3 * o + i) % 8 + 7 * o + i);
            }
        }
        for (int o = 0; o < 12; o++) {
            DUE.is("ACTS of " + o, sums[o], x.hourIs(2 * o, 1));
        }
    }

    private static void notDone() {
        BellHours x = new BellHours();
        x.own(0, 0);
        x.act(0, 1, 0, 5);
        x.act(0, 2, 0, 5);
        x.act(0, 3, 0, 5);
        Due.law(x, 0, "n(k=2);sa(1=1);w7(1=1);n(s>9)");
        DUE.is("one is not done", 1, x.hourIs(0, 3));
        DUE.is("the first of them", 1, x.hourIs(0, 4));
        DUE.is("worths of the others", 14, x.hourIs(0, 1));
        DUE.is("stores of the others", 10, x.found(1, 0, 0));
        x.act(0, 4, 0, 5);
        DUE.is("another one by a second n", 2, x.hourIs(0, 3));
        DUE.is("the first of them stays", 1, x.hourIs(0, 4));
        Due.law(x, 0, "n(1=1);w7(1=1)");
        DUE.is("none is done", 4, x.hourIs(0, 3));
        DUE.is("the first", 0, x.hourIs(0, 4));
        DUE.is("no worths", 0, x.hourIs(0, 1));
        Due.law(x, 0, "w7(1=1)");
        DUE.is("all are done", 0, x.hourIs(0, 3));
        DUE.is("there is none", -1, x.hourIs(0, 4));
    }

    private static void whatIsSeen() {
        BellHours x = new BellHours();
        x.own(0, 3);
        x.own(1, 4);
        x.own(3, 5);
        x.act(3, 6, 1, 50);
        x.act(4, 6, 1, 50);
        x.act(5, 6, 1, 50);
        Due.law(x, 0, "wp*12+o(1=1)");
        DUE.is("ahead of 0 is nobody", 12 * 12 + 3, x.hourIs(0, 1));
        DUE.is("ahead of 1", 3 * 12 + 4, x.hourIs(1, 1));
        DUE.is("ahead of 3 is nobody", 12 * 12 + 5, x.hourIs(3, 1));
        x.own(23, 9);
        DUE.is("ahead of 0 is 23", 9 * 12 + 3, x.hourIs(0, 1));
        Due.law(x, 0, "f100*k+a+r+1(1=1)");
        DUE.is("k and a are 0 in f, all rooms are asked", 36, x.hourIs(0, 2));
        Due.law(x, 0, "co+p+a+k(t=2)");
        x.room(0, 0, 0, 99);
        DUE.is("o in c of nobody's is 12, p is 4", 99 - 16, x.found(3, 0, 2));
        Due.law(x, 0, "s1(1=1);dd+s+1(1=1);hs+d+1(1=1);ws+d+h(1=1)");
        x.noActs(3);
        x.act(3, 0, 1, 0);
        x.act(3, 0, 1, 0);
        DUE.is("asked ahead of the ACT: store", 2, x.found(1, 1, 0));
        DUE.is("asked ahead of the ACT: dirt", 1 + 1 + 1 + 1, x.found(1, 1, 1));
        DUE.is("asked ahead of the ACT: heat", 1 + 1 + 1 + 1, x.found(1, 1, 2));
        DUE.is("asked ahead of the ACT: worth", 3, x.hourIs(0, 1));
        Due.law(x, 0, "h50(1=1);fh(1=1);ch/2(1=1)");
        x.noActs(3);
        x.act(3, 0, 1, 0);
        x.room(0, 0, 0, 0);
        DUE.is("fines are ahead of the cooling", 50, x.hourIs(0, 2));
        DUE.is("cooled as it is then", 25, x.found(1, 1, 2));
    }

    private static void value() {
        BellHours x = new BellHours();
        x.own(2, 7);
        x.own(20, 7);
        x.own(9, 8);
        x.act(7, 0, 0, 10);
        x.act(8, 0, 0, 99);
        Due.law(x, 0, "wa+t(1=1);f1(r<o)");
        DUE.is("worths of 7", 12 + 30, x.value(7, 1));
        DUE.is("fines of 7", 14, x.value(7, 2));
        DUE.is("value of 7", 28, x.value(7, 0));
        DUE.is("hours of 7", 2, x.value(7, 3));
        DUE.is("value of 8", 108 - 8, x.value(8, 0));
        DUE.is("value of 9", 0, x.value(9, 0));
        x.own(0, 9);
        DUE.is("hours of 9", 1, x.value(9, 3));
        Due.law(x, 0, "f999(1=1)");
        DUE.is("a value below 0", -2 * 8 * 999, x.value(7, 0));
    }

    private static void wrongInputs() {
        BellHours x = new BellHours();
        x.own(0, 0);
        int[][] found = {{-1, 0, 0}, {25, 0, 0}, {0, -1, 0}, {0, 8, 0}, {0, 0, -1}, {0, 0, 3}};
        for (int[] w : found) {
            DUE.is("found", -1, x.found(w[0], w[1], w[2]));
        }
        int[][] hours = {{-1, 0}, {24, 0}, {0, -1}, {0, 5}};
        for (int[] w : hours) {
            DUE.is("hourIs", NO, x.hourIs(w[0], w[1]));
        }
        int[][] values = {{-1, 0}, {12, 0}, {0, -1}, {0, 4}};
        for (int[] w : values) {
            DUE.is("value", NO, x.value(w[0], w[1]));
        }
        for (int far : FAR) {
            DUE.no("own", x.own(far, 0));
            DUE.no("own", x.own(0, far));
            DUE.no("room", x.room(far, far, far, far));
            DUE.is("act", -1, x.act(far, far, far, far));
            DUE.is("noActs", -1, x.noActs(far));
            DUE.is("found", -1, x.found(far, 0, 0));
            DUE.is("found", -1, x.found(0, far, far));
            DUE.is("hourIs", NO, x.hourIs(far, 0));
            DUE.is("hourIs", NO, x.hourIs(0, far));
            DUE.is("value", NO, x.value(far, 0));
            DUE.is("value", NO, x.value(0, far));
        }
    }
}

/** Edges of what is KEPT and UNDONE, CHECKED and counted: promises 29 to 32. */
public final class EdgesOfKeepTest {
    private static final Edges EDGES = new Edges("EdgesOfKeepTest");
    private static final int[] FAR = {Integer.MIN_VALUE, Integer.MIN_VALUE + 1, -65536, -256, 256, 65536, Integer.MAX_VALUE};

    public static void main(String[] args) {
        whatIsKept();
        keep();
        undo();
        storesByRooms();
        check();
        checkKeepsTape();
        count();
        constants();
        EDGES.end();
    }

    private static BellHours full() {
        BellHours x = new BellHours();
        for (int h = 0; h < 24; h++) {
            x.own(h, h % 12);
        }
        for (int r = 0; r < 8; r++) {
            x.room(r, 99 - r, 50 + r, r);
        }
        for (int o = 0; o < 12; o++) {
            for (int i = 0; i < 5; i++) {
                x.act(o, i, (o + i) % 8, 7 * o + i);
            }
        }
        x.seed(65535);
        Due.law(x, 0, "w[o*5+k]*8+r+a(1=1)");
        return x;
    }

    /** Everything that is KEPT is another one then. */
    private static void spoil(BellHours x) {
        for (int h = 0; h < 24; h++) {
            x.own(h, -1);
        }
        for (int r = 0; r < 8; r++) {
            x.room(r, 0, 0, 0);
        }
        for (int o = 0; o < 12; o++) {
            x.noActs(o);
            x.act(o, 6, 7, 99);
        }
        x.seed(0);
    }

    private static void sameAsFull(BellHours x) {
        BellHours due = full();
        for (int h = 0; h < 24; h++) {
            EDGES.is("HOUR " + h, due.hourIs(h, 0), x.hourIs(h, 0));
            EDGES.is("ACTS of HOUR " + h, due.hourIs(h, 1), x.hourIs(h, 1));
        }
        for (int r = 0; r < 8; r++) {
            for (int what = 0; what < 3; what++) {
                EDGES.is("ROOM " + r, due.found(0, r, what), x.found(0, r, what));
            }
        }
        for (int o = 0; o < 12; o++) {
            EDGES.is("ACTS of " + o, 5, x.count(10 + o));
        }
        EDGES.is("X", 65535, x.count(3));
    }

    private static void whatIsKept() {
        EDGES.words("Terms", "KEPT: HOURS, ROOMS, ACTS, X; UNDONE: as they were KEPT last.");
        BellHours x = full();
        x.keep();
        spoil(x);
        EDGES.is("spoiled", 0, x.count(4));
        x.undo();
        sameAsFull(x);
        BellHours y = full();
        y.keep();
        Due.law(y, 0, "w1(1=1)");
        y.searches(0, 255);
        y.says(0, 1);
        y.feed(0, 0, 0, 0, 0);
        y.undo();
        EDGES.is("the LAW is not KEPT", 5, y.hourIs(0, 1));
        EDGES.is("SEARCHES are not KEPT", -2, y.hidden(0, 1, 4095, -1));
        EDGES.is("WORDS are not KEPT", 1, y.count(30));
        EDGES.is("the tape is not KEPT", 20, y.count(2));
        y.dies(0);
        y.undo();
        EDGES.is("SEARCHES that fell stay so", 0, y.hidden(0, 1, 4095, -1));
        EDGES.is("its ACTS are there again", 5, y.count(10));
        EDGES.is("its HOUR is its own again", 0, y.hourIs(0, 0));
    }

    private static void keep() {
        EDGES.words("Promise 29", "KEPT: how many HOURS have an OWNER.");
        BellHours x = new BellHours();
        EDGES.is("none", 0, x.keep());
        x.own(23, 0);
        EDGES.is("one", 1, x.keep());
        EDGES.is("once more", 1, x.keep());
        EDGES.is("all", 24, full().keep());
    }

    private static void undo() {
        EDGES.words("Promise 30", "UNDONE: true; false: none was KEPT.");
        BellHours x = new BellHours();
        EDGES.no("none was KEPT", x.undo());
        x.own(0, 3);
        x.seed(9);
        EDGES.no("none was KEPT", x.undo());
        EDGES.is("the HOUR stays", 3, x.hourIs(0, 0));
        EDGES.is("X stays", 9, x.count(3));
        x.keep();
        x.own(0, 4);
        EDGES.yes("one was KEPT", x.undo());
        EDGES.is("as it was", 3, x.hourIs(0, 0));
        EDGES.yes("once more", x.undo());
        EDGES.is("as it was", 3, x.hourIs(0, 0));
        x.own(0, 5);
        x.keep();
        x.own(0, 6);
        EDGES.yes("the last that was KEPT", x.undo());
        EDGES.is("not the one before", 5, x.hourIs(0, 0));
        BellHours empty = new BellHours();
        empty.keep();
        empty.own(0, 3);
        empty.act(3, 0, 0, 0);
        empty.draw(5);
        EDGES.yes("an empty palace was KEPT", empty.undo());
        EDGES.is("empty again", 0, empty.count(4));
        EDGES.is("no ACTS", 0, empty.count(13));
        EDGES.is("X", 1, empty.count(3));
    }

    private static void storesByRooms() {
        EDGES.words("Terms", "CHECK of an HOUR: STORES that it finds, by ROOMS: right, or the first number that is "
            + "not so.");
        BellHours x = new BellHours();
        for (int r = 0; r < 8; r++) {
            x.room(r, 10 * r, 1, 2);
        }
        x.own(22, 0);
        x.act(0, 0, 7, 0);
        Due.law(x, 0, "s5(1=1)");
        for (int wrong = 0; wrong <= 8; wrong++) {
            int[] are = {0, 10, 20, 30, 40, 50, 60, 70};
            if (wrong < 8) {
                are[wrong]++;
            }
            x.feed(are[0], are[1], are[2], are[3], are[4]);
            x.feed(are[5], are[6], are[7], 0, 0);
            EDGES.is("wrong at " + wrong, wrong < 8 ? wrong : -1, x.check(22, 8));
        }
        x.feed(0, 10, 20, 30, 40);
        x.feed(50, 60, 75, 0, 0);
        EDGES.is("as HOUR 23 finds them", -1, x.check(23, 8));
        x.feed(0, 10, 20, 30, 40);
        x.feed(50, 60, 75, 0, 0);
        EDGES.is("not as HOUR 22 does", 7, x.check(22, 8));
        x.feed(0, 11, 21, 31, 40);
        EDGES.is("the first of three", 1, x.check(0, 5));
        int[] far = {1 << 8, 1 << 16, 1 << 24, 1 << 31, -1};
        for (int number : far) {
            x.feed(number, 10, 0, 0, 0);
            EDGES.is("all four bytes count", 0, x.check(0, 2));
        }
    }

    private static void check() {
        EDGES.words("Promise 31", "CHECK of an HOUR by the first n numbers of the tape (0 to 8; four bytes each; "
            + "empty then): NONE: right; "
            + "else the place of the first number that is not so");
        for (int n = 0; n <= 8; n++) {
            BellHours x = new BellHours();
            x.feed(0, 0, 0, 0, 0);
            x.feed(0, 0, 0, 1, 1);
            EDGES.is(n + " numbers, right", -1, x.check(23, n));
            EDGES.is("empty then", 0, x.count(2));
            x.room(n % 8, 1, 0, 0);
            x.feed(0, 0, 0, 0, 0);
            x.feed(0, 0, 0, 1, 1);
            EDGES.is(n + " numbers, wrong at " + n % 8, n == 8 ? 0 : -1, x.check(0, n));
            EDGES.is("empty then", 0, x.count(2));
        }
        BellHours y = new BellHours();
        y.feed(0, 0, 0, 0, 0);
        EDGES.is("all five that it has", -1, y.check(0, 5));
        EDGES.is("none of an empty tape", -1, y.check(0, 0));
        y.feed(7, 7, 7, 7, 7);
        EDGES.is("none of them", -1, y.check(23, 0));
        EDGES.is("empty then", 0, y.count(2));
    }

    private static void checkKeepsTape() {
        EDGES.words("Promise 31", "-2: no such ones, it has not so many (the tape stays)");
        BellHours x = new BellHours();
        EDGES.is("one of an empty tape", -2, x.check(0, 1));
        x.feed(0, 0, 0, 0, 9);
        EDGES.is("six of five", -2, x.check(0, 6));
        EDGES.is("eight of five", -2, x.check(0, 8));
        int[][] wrong = {{-1, 0}, {24, 0}, {-1, 5}, {24, 5}, {0, -1}, {0, 9}};
        for (int[] w : wrong) {
            EDGES.is("HOUR " + w[0] + " by " + w[1], -2, x.check(w[0], w[1]));
        }
        for (int far : FAR) {
            EDGES.is("HOUR " + far, -2, x.check(far, 1));
            EDGES.is("by " + far, -2, x.check(0, far));
        }
        EDGES.is("by a number that wraps round", -2, x.check(0, 1 << 30));
        EDGES.is("the tape stays", 20, x.count(2));
        EDGES.is("its bytes stay", 4, x.check(0, 5));
        for (int i = 0; i < 11; i++) {
            x.feed(0, 0, 0, 0, 0);
        }
        EDGES.is("nine of 55", -2, x.check(0, 9));
        EDGES.is("full still", 220, x.count(2));
        EDGES.is("eight of 55", -1, x.check(0, 8));
        EDGES.is("all are gone", 0, x.count(2));
    }

    private static void count() {
        EDGES.words("Promise 32", "0, 1 CLAUSES of LAW 0, 1, 2 bytes of the tape, 3 X, 4 HOURS that have an OWNER; 10 "
            + "+ o ACTS of OWNER o, "
            + "30 + h the WORD of HOUR h. NONE for others.");
        BellHours x = new BellHours();
        Due.law(x, 0, "n(1=1);n(1=1)");
        Due.law(x, 1, "n(1=1);n(1=1);n(1=1)");
        x.feed(0, 0, 0, 0, 0);
        x.seed(99);
        x.own(0, 0);
        x.own(1, 0);
        x.own(2, 0);
        x.own(23, 0);
        for (int o = 0; o < 12; o++) {
            for (int i = 0; i < o % 6; i++) {
                x.act(o, 0, 0, 0);
            }
        }
        for (int h = 0; h < 24; h++) {
            x.says(h, h % 3);
        }
        int[] first = {2, 3, 20, 99, 4};
        for (int what = -3; what < 70; what++) {
            int due = -1;
            if (what >= 0 && what < 5) {
                due = first[what];
            } else if (what >= 10 && what < 22) {
                due = (what - 10) % 6;
            } else if (what >= 30 && what < 54) {
                due = (what - 30) % 3;
            }
            EDGES.is("what " + what, due, x.count(what));
        }
        for (int far : FAR) {
            EDGES.is("what " + far, -1, x.count(far));
        }
        BellHours empty = new BellHours();
        int[] at = {0, 0, 0, 1, 0};
        for (int what = 0; what < 5; what++) {
            EDGES.is("of a new palace, " + what, at[what], empty.count(what));
        }
        EDGES.is("full", 24, full().count(4));
    }

    private static void constants() {
        EDGES.words("Terms", "The constants: `NONE = -1`: There is none.");
        EDGES.is("NONE", -1, BellHours.NONE);
    }
}

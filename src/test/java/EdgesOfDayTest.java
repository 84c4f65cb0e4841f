/** Edges of HOURS, ROOMS, ACTS and a DAY, and of promises 1 to 10. */
public final class EdgesOfDayTest {
    private static final Edges EDGES = new Edges("EdgesOfDayTest");
    private static final int NO = -1000000;
    private static final int[] FAR = {Integer.MIN_VALUE, Integer.MIN_VALUE + 1, -65536, -256, 256, 65536, Integer.MAX_VALUE};

    public static void main(String[] args) {
        hoursAndOwners();
        roomsAtFirst();
        actsInOrder();
        fromHour0On();
        mayBeDone();
        heldTo0And99();
        finesOfAnOwnedHour();
        coolerAtTheEnd();
        valueLessFines();
        newObject();
        longUse();
        own();
        room();
        feed();
        law();
        lawKeepsTape();
        act();
        noActs();
        found();
        hourIs();
        value();
        EDGES.end();
    }

    private static void hoursAndOwners() {
        EDGES.words("Terms", "HOURS 0 to 23, each of an OWNER (0 to 11) or of nobody (at first)");
        BellHours x = new BellHours();
        for (int h = 0; h < 24; h++) {
            EDGES.is("HOUR " + h + " at first", 12, x.hourIs(h, 0));
        }
        for (int h = 0; h < 24; h++) {
            EDGES.yes("own " + h, x.own(h, h % 12));
        }
        for (int h = 0; h < 24; h++) {
            EDGES.is("HOUR " + h, h % 12, x.hourIs(h, 0));
        }
        EDGES.is("full", 24, x.count(4));
    }

    private static void roomsAtFirst() {
        EDGES.words("Terms", "ROOMS 0 to 7: STORE, DIRT, HEAT (0 to 99 each; 0 at first) as they are at HOUR 0");
        BellHours x = new BellHours();
        for (int r = 0; r < 8; r++) {
            for (int what = 0; what < 3; what++) {
                EDGES.is("ROOM " + r + " at first", 0, x.found(0, r, what));
            }
        }
        for (int r = 0; r < 8; r++) {
            EDGES.yes("room " + r, x.room(r, 99 - r, r, 50 + r));
        }
        for (int r = 0; r < 8; r++) {
            EDGES.is("STORE of " + r, 99 - r, x.found(0, r, 0));
            EDGES.is("DIRT of " + r, r, x.found(0, r, 1));
            EDGES.is("HEAT of " + r, 50 + r, x.found(0, r, 2));
        }
        x.own(0, 0);
        x.act(0, 0, 3, 9);
        Due.law(x, 0, "s0-a(1=1);d5(1=1);h5(1=1);c1(1=1)");
        EDGES.is("HOUR 1 finds less", 99 - 3 - 9, x.found(1, 3, 0));
        EDGES.is("they are told as at HOUR 0", 99 - 3, x.found(0, 3, 0));
        EDGES.is("the next DAY begins as this one", 99 - 3, x.found(0, 3, 0));
    }

    private static void actsInOrder() {
        EDGES.words("Terms",
            "ACTS of an OWNER (5 at most), done in their order in each of its HOURS: a KIND (0 to 6), a ROOM, an AMOUNT (0 to 99)");
        BellHours x = Edges.owned(11, -1, 11);
        x.own(23, 11);
        for (int i = 0; i < 5; i++) {
            EDGES.is("ACT " + i, i + 1, x.act(11, i + 2, 7, 99 - i));
        }
        EDGES.is("a sixth", -1, x.act(11, 0, 0, 0));
        Due.law(x, 0, "d1(1=1);w100*[d%5]+k(1=1)");
        int due = 2 + 103 + 204 + 305 + 406;
        EDGES.is("in HOUR 0", due, x.hourIs(0, 1));
        EDGES.is("in HOUR 2 again", due, x.hourIs(2, 1));
        EDGES.is("in HOUR 23 again", due, x.hourIs(23, 1));
        EDGES.is("15 ACTS", 15, x.found(24, 7, 1));
        Due.law(x, 0, "wa(1=1)");
        EDGES.is("all AMOUNTS", 99 + 98 + 97 + 96 + 95, x.hourIs(2, 1));
        BellHours y = Edges.owned(0);
        EDGES.is("the least ACT", 1, y.act(0, 0, 0, 0));
        EDGES.is("the greatest ACT", 2, y.act(0, 6, 7, 99));
    }

    private static void fromHour0On() {
        EDGES.words("Terms", "A DAY from HOUR 0 on: in each HOUR that is owned each ACT of its OWNER, one behind the "
            + "other");
        BellHours x = Edges.owned(1);
        x.own(23, 1);
        x.act(1, 0, 0, 3);
        x.act(1, 0, 0, 4);
        Due.law(x, 0, "sa(1=1);ws+1(1=1)");
        EDGES.is("HOUR 0 does not see what 23 did", 1 + 4, x.hourIs(0, 1));
        EDGES.is("HOUR 23 sees what 0 did", 8 + 11, x.hourIs(23, 1));
        EDGES.is("the end", 14, x.found(24, 0, 0));
        for (int h = 1; h < 24; h++) {
            EDGES.is("nobody does anything ahead of " + h, 7, x.found(h, 0, 0));
        }
        x.own(23, 2);
        EDGES.is("an OWNER without ACTS does nothing", 7, x.found(24, 0, 0));
    }

    private static void mayBeDone() {
        EDGES.words("Terms", "if it may be done: w, s, d, h are asked of the ROOM as it is ahead of the ACT");
        BellHours x = Edges.owned(0);
        x.room(0, 10, 20, 30);
        x.act(0, 0, 0, 0);
        Due.law(x, 0, "ss+d+h-59(1=1);ds+d+h-58(1=1);hs+d+h-57(1=1);ws+d+h(1=1)");
        EDGES.is("w", 60, x.hourIs(0, 1));
        EDGES.is("s", 11, x.found(1, 0, 0));
        EDGES.is("d", 22, x.found(1, 0, 1));
        EDGES.is("h", 33, x.found(1, 0, 2));
        x.act(0, 0, 0, 0);
        Due.law(x, 0, "n(s>10);s1(1=1)");
        EDGES.is("n is asked as the one before left it", 1, x.hourIs(0, 4));
        EDGES.is("once", 11, x.found(1, 0, 0));
    }

    private static void heldTo0And99() {
        EDGES.words("Terms", "then all three are changed (held to 0 and 99)");
        int[] at = {0, 1, 49, 50, 51, 98, 99};
        for (int from : at) {
            BellHours x = Edges.owned(0);
            x.room(7, from, from, from);
            x.act(0, 0, 7, 0);
            Due.law(x, 0, "s50(1=1);d0-50(1=1);h1(1=1)");
            EDGES.is("STORE from " + from, Math.min(99, from + 50), x.found(1, 7, 0));
            EDGES.is("DIRT from " + from, Math.max(0, from - 50), x.found(1, 7, 1));
            EDGES.is("HEAT from " + from, Math.min(99, from + 1), x.found(1, 7, 2));
            Due.law(x, 0, "s0-50(1=1);d50(1=1);h0-1(1=1)");
            EDGES.is("STORE from " + from, Math.max(0, from - 50), x.found(1, 7, 0));
            EDGES.is("DIRT from " + from, Math.min(99, from + 50), x.found(1, 7, 1));
            EDGES.is("HEAT from " + from, Math.max(0, from - 1), x.found(1, 7, 2));
        }
        BellHours x = Edges.owned(0);
        x.room(0, 60, 40, 0);
        x.act(0, 0, 0, 0);
        x.act(0, 1, 0, 0);
        Due.law(x, 0, "s60(k=0);s0-60(k=1);d0-60(k=0);d60(k=1)");
        EDGES.is("held behind each ACT: above", 39, x.found(1, 0, 0));
        EDGES.is("held behind each ACT: below", 60, x.found(1, 0, 1));
    }

    private static void finesOfAnOwnedHour() {
        EDGES.words("Terms", "behind all of them FINES of all ROOMS as they are then (of an owned HOUR alone)");
        BellHours x = Edges.owned(-1, 3, -1);
        x.own(23, 4);
        x.act(3, 0, 2, 0);
        x.act(3, 0, 2, 0);
        Due.law(x, 0, "d4(1=1);f1+d(1=1);h9(1=1);c9(1=1)");
        EDGES.is("nobody's first HOUR", 0, x.hourIs(0, 2));
        EDGES.is("behind both ACTS, of all ROOMS", 8 + 8, x.hourIs(1, 2));
        EDGES.is("nobody's next HOUR", 0, x.hourIs(2, 2));
        EDGES.is("an OWNER without ACTS", 8 + 8, x.hourIs(23, 2));
        EDGES.is("all of them", 32, x.finesBy(0));
        Due.law(x, 0, "h7(1=1);fh(r=2);c5(1=1)");
        EDGES.is("ahead of the cooling", 14, x.hourIs(1, 2));
    }

    private static void coolerAtTheEnd() {
        EDGES.words("Terms",
            "at the end of each HOUR (also of nobody's) all ROOMS are less hot by c (asked as the ROOM is then; not below 0)");
        BellHours x = Edges.owned(-1, 3);
        for (int r = 0; r < 8; r++) {
            x.room(r, 0, 0, 10 + r);
        }
        x.act(3, 0, 7, 0);
        Due.law(x, 0, "c4(1=1);h30(1=1)");
        for (int r = 0; r < 8; r++) {
            EDGES.is("nobody's HOUR, ROOM " + r, 6 + r, x.found(1, r, 2));
        }
        EDGES.is("not below 0", 0, x.found(3, 0, 2));
        EDGES.is("down to 0", 0, x.found(4, 2, 2));
        EDGES.is("1 is left", 1, x.found(3, 3, 2));
        EDGES.is("then none", 0, x.found(4, 3, 2));
        EDGES.is("behind the ACT", 13 + 30 - 4, x.found(2, 7, 2));
        Due.law(x, 0, "ch/2(1=1);h30(1=1)");
        EDGES.is("asked as it is behind the ACT", (17 - 8 + 30) - (17 - 8 + 30) / 2, x.found(2, 7, 2));
        Due.law(x, 0, "c3(t=23)");
        EDGES.is("not at the end of 22", 10, x.found(23, 0, 2));
        EDGES.is("at the end of 23", 7, x.found(24, 0, 2));
    }

    private static void valueLessFines() {
        EDGES.words("Terms", "VALUE of an OWNER: worths of its ACTS less FINES of its HOURS");
        BellHours x = Edges.owned(5, 6, 5);
        x.act(5, 0, 0, 9);
        x.act(6, 0, 0, 99);
        Due.law(x, 0, "wa(1=1);f2(1=1)");
        EDGES.is("of 5", 9 + 9 - 32, x.value(5, 0));
        EDGES.is("of 6", 99 - 16, x.value(6, 0));
        EDGES.is("of one without an HOUR", 0, x.value(7, 0));
        for (int h = 0; h < 24; h++) {
            x.own(h, 7);
        }
        Due.law(x, 0, "w999(1=1);f999(1=1)");
        EDGES.is("the least that can be", -24 * 8 * 999, x.value(7, 0));
        for (int i = 0; i < 5; i++) {
            x.act(7, 0, 0, 0);
        }
        Due.law(x, 0, "w999(1=1)");
        EDGES.is("the most that can be", 24 * 5 * 999, x.value(7, 0));
    }

    private static void newObject() {
        EDGES.words("Promise 1", "All HOURS are nobody's; no ACTS, LAWS; THE SEED 1.");
        BellHours x = new BellHours();
        EDGES.is("no HOURS", 0, x.count(4));
        EDGES.is("no LAW 0", 0, x.count(0));
        EDGES.is("no LAW 1", 0, x.count(1));
        EDGES.is("no tape", 0, x.count(2));
        EDGES.is("X", 1, x.count(3));
        for (int o = 0; o < 12; o++) {
            EDGES.is("no ACTS", 0, x.count(10 + o));
            EDGES.is("no HOURS", 0, x.value(o, 3));
            EDGES.is("no guest's pence", 0, x.guest(0, 24, 99999, o));
        }
        EDGES.is("no BEST ORDER", NO, x.bestOrder(0, -1));
        EDGES.is("no PRICE", NO, x.price(23));
        EDGES.is("no BEST SWAP", -2, x.bestSwap(2));
        EDGES.is("no SWAPS", 0, x.tillNone());
        EDGES.is("no FINES", 0, x.finesBy(0) + x.finesBy(1));
        EDGES.is("none TOUCH", 0, x.touching(0, 11));
        EDGES.is("none looks", 0, x.hidden(0, 24, 0, 23));
        EDGES.is("it did not break", 1 << 24, x.holds(0));
        EDGES.is("none is guilty", -2, x.guilty(12));
        EDGES.no("none was KEPT", x.undo());
        EDGES.is("drawn from 1 on", 1, x.draw(1));
        EDGES.is("X then", 39022, x.count(3));
        EDGES.words("Terms", "All memory is the palace's own.");
        BellHours y = new BellHours();
        EDGES.is("another palace has its own HOURS", 0, y.count(4));
        EDGES.is("and its own X", 1, y.count(3));
        Due.law(x, 0, "w5(1=1)");
        x.searches(0, 255);
        x.says(0, 1);
        x.feed(1, 2, 3, 4, 5);
        x.keep();
        y.own(0, 0);
        EDGES.is("and its own LAW", 0, y.count(0));
        EDGES.is("and its own SEARCHES", 0, y.hidden(0, 1, 0, -1));
        EDGES.is("and its own WORDS", 2, y.count(30));
        EDGES.is("and its own tape", 0, y.count(2));
        EDGES.no("and what it KEPT", y.undo());
    }

    private static void longUse() {
        EDGES.words("What it is", "An object is used for at most 512 calls after it has been made");
        BellHours x = new BellHours();
        for (int i = 0; i < 170; i++) {
            x.own(i % 24, i % 12);
            x.act(i % 12, i % 7, i % 8, i % 100);
            x.noActs(i % 12);
        }
        EDGES.is("the 511th", 24, x.keep());
        EDGES.is("the 512th", 24, x.count(4));
    }

    private static void own() {
        EDGES.words("Promise 2", "An HOUR is an OWNER's (NONE: nobody's): true; false: no such ones.");
        BellHours x = new BellHours();
        EDGES.yes("the first HOUR, the first OWNER", x.own(0, 0));
        EDGES.yes("the last HOUR, the last OWNER", x.own(23, 11));
        EDGES.no("HOUR -1", x.own(-1, 5));
        EDGES.no("HOUR 24", x.own(24, 5));
        EDGES.no("OWNER 12", x.own(0, 12));
        EDGES.no("OWNER -2", x.own(0, -2));
        EDGES.no("HOUR -1 to nobody", x.own(-1, -1));
        EDGES.no("HOUR 24 to nobody", x.own(24, -1));
        for (int far : FAR) {
            EDGES.no("HOUR " + far, x.own(far, 5));
            EDGES.no("OWNER " + far, x.own(0, far));
        }
        EDGES.is("0 stays", 0, x.hourIs(0, 0));
        EDGES.is("two in all", 2, x.count(4));
        EDGES.yes("the same once more", x.own(0, 0));
        EDGES.is("two in all", 2, x.count(4));
        EDGES.yes("another one", x.own(0, 1));
        EDGES.is("another one's", 1, x.hourIs(0, 0));
        EDGES.yes("nobody's", x.own(0, -1));
        EDGES.is("nobody's", 12, x.hourIs(0, 0));
        EDGES.yes("nobody's once more", x.own(0, -1));
        EDGES.is("one in all", 1, x.count(4));
    }

    private static void room() {
        EDGES.words("Promise 3", "A ROOM at HOUR 0: true; false: no such ones.");
        BellHours x = new BellHours();
        EDGES.yes("the least", x.room(0, 0, 0, 0));
        EDGES.yes("the greatest", x.room(7, 99, 99, 99));
        int[][] wrong = {{-1, 1, 1, 1}, {8, 1, 1, 1}, {7, -1, 1, 1}, {7, 100, 1, 1}, {7, 1, -1, 1}, {7, 1, 100, 1},
            {7, 1, 1, -1}, {7, 1, 1, 100}};
        for (int[] w : wrong) {
            EDGES.no("a wrong one", x.room(w[0], w[1], w[2], w[3]));
        }
        for (int far : FAR) {
            EDGES.no("ROOM " + far, x.room(far, 1, 1, 1));
            EDGES.no("STORE " + far, x.room(7, far, 1, 1));
            EDGES.no("DIRT " + far, x.room(7, 1, far, 1));
            EDGES.no("HEAT " + far, x.room(7, 1, 1, far));
        }
        for (int what = 0; what < 3; what++) {
            EDGES.is("ROOM 7 stays", 99, x.found(0, 7, what));
            EDGES.is("ROOM 6 stays", 0, x.found(0, 6, what));
        }
        EDGES.yes("another time", x.room(7, 1, 2, 3));
        for (int what = 0; what < 3; what++) {
            EDGES.is("in place of the one before", 1 + what, x.found(24, 7, what));
        }
    }

    private static void feed() {
        EDGES.words("Promise 4", "Twenty bytes come behind the tape, the highest of each int first: how many it has");
        BellHours x = new BellHours();
        x.feed(0x00000001, 0x00000100, 0x00010000, 0x01000000, 0xffffffff);
        x.room(0, 1, 0, 0);
        EDGES.is("the lowest byte last", 1, x.check(0, 5));
        x.feed('w' << 24 | '1' << 16 | '2' << 8 | '+', '[' << 24 | 'a' << 16 | ']' << 8 | '(', 0x6b3d3026, 0x313d3126, 0x323d3229);
        EDGES.is("all twenty bytes", 1, x.law(0, 20));
        x.feed('w' << 24 | '1' << 16 | '2' << 8 | '+', '[' << 24 | 'a' << 16 | ']' << 8 | '(', 0x6b3d3026, 0x313d3126, 0x323d3226);
        EDGES.is("forty", 40, x.feed(0x323d3229, 0, 0, 0, 0));
        EDGES.is("the next ones behind them", 1, x.law(0, 24));
        EDGES.words("Promise 4", "NONE if that would be more than 220");
        for (int i = 1; i <= 11; i++) {
            EDGES.is("feed " + i, 20 * i, x.feed(i, i, i, i, i));
        }
        EDGES.is("a twelfth", -1, x.feed(0, 0, 0, 0, 0));
        EDGES.is("a thirteenth", -1, x.feed(-1, -1, -1, -1, -1));
        EDGES.is("full", 220, x.count(2));
        x.room(0, 1, 0, 0);
        for (int r = 1; r < 8; r++) {
            x.room(r, r < 5 ? 1 : 2, 0, 0);
        }
        EDGES.is("its bytes stay", -1, x.check(0, 8));
        EDGES.is("empty again", 20, x.feed(0, 0, 0, 0, 0));
    }

    private static void law() {
        EDGES.words("Promise 5", "LAW w (0, 1) by the first n bytes of the tape (1 to 200; empty then), in place of "
            + "the one before: how many CLAUSES");
        BellHours x = Edges.owned(0);
        x.act(0, 0, 0, 0);
        Due.text(x, "w5(1=1);n(1=2);n(1=3)");
        EDGES.is("the first 7 of 21", 1, x.law(0, 7));
        EDGES.is("empty then", 0, x.count(2));
        EDGES.is("it is in force", 5, x.hourIs(0, 1));
        Due.text(x, "w5(1=1);n(1=2);n(1=3)");
        EDGES.is("all 21", 3, x.law(1, 21));
        EDGES.is("of LAW 1", 3, x.count(1));
        EDGES.is("of LAW 0", 1, x.count(0));
        EDGES.is("in place of the one before", 1, Due.law(x, 0, "f1(1=1)"));
        EDGES.is("w is gone", 0, x.hourIs(0, 1));
        EDGES.is("f is there", 8, x.hourIs(0, 2));
        EDGES.is("14 in place of 1", 14, Due.law(x, 0, "n(1=2);".repeat(13) + "w6(1=1)"));
        EDGES.is("14", 14, x.count(0));
        EDGES.is("the last is there", 6, x.hourIs(0, 1));
        EDGES.is("f is gone", 0, x.hourIs(0, 2));
        EDGES.is("1 in place of 14", 1, Due.law(x, 0, "d1(1=1)"));
        EDGES.is("1", 1, x.count(0));
        EDGES.is("one byte", -1001, Due.law(x, 0, "n"));
        EDGES.is("200 bytes", 1, Due.law(x, 0, "w11" + "+1".repeat(96) + "(1=1)"));
        EDGES.words("Promise 5", "a FAULT: -1000 times its number, less its place (the TEXT before stays)");
        EDGES.is("at place 0", -1000, Due.law(x, 0, "~"));
        EDGES.is("empty behind a FAULT", 0, x.count(2));
        EDGES.is("the TEXT before stays", 107, x.hourIs(0, 1));
        EDGES.is("of a longer one", -1013, Due.law(x, 0, "w6(1=1);n(1=2"));
        EDGES.is("the TEXT before stays", 107, x.hourIs(0, 1));
        EDGES.is("its CLAUSES stay", 1, x.count(0));
        EDGES.is("at place 200", -1200, Due.law(x, 0, "w11" + "+1".repeat(97) + "(1="));
        EDGES.is("at place 199", -1199, Due.law(x, 0, "w11" + "+1".repeat(96) + "(1=1~"));
        EDGES.is("of LAW 1", -1003, Due.law(x, 1, "n(1"));
        EDGES.is("LAW 1 stays", 3, x.count(1));
        EDGES.is("number 2", -2006, Due.law(x, 0, "w123456"));
        EDGES.is("number 4", -4098, Due.law(x, 0, "n(1=2);".repeat(14) + "w"));
        EDGES.is("number 5", -5007, Due.law(x, 0, "n((((((("));
        EDGES.is("the TEXT before stays", 107, x.hourIs(0, 1));
        BellHours none = new BellHours();
        EDGES.is("a FAULT where there was none", -1000, Due.law(none, 0, "~"));
        EDGES.is("there is none still", 0, none.count(0));
    }

    private static void lawKeepsTape() {
        EDGES.words("Promise 5", "NONE: no such ones, it has not so many (the tape stays)");
        BellHours x = new BellHours();
        EDGES.is("nothing of an empty tape", -1, x.law(0, 0));
        EDGES.is("a byte of an empty tape", -1, x.law(0, 1));
        Due.text(x, "n(1=1)");
        int[][] wrong = {{-1, 6}, {2, 6}, {0, 0}, {0, -1}, {0, 21}, {1, 21}, {0, 200}, {0, 201}, {0, 220}};
        for (int[] w : wrong) {
            EDGES.is("LAW " + w[0] + " by " + w[1], -1, x.law(w[0], w[1]));
        }
        for (int far : FAR) {
            EDGES.is("LAW " + far, -1, x.law(far, 6));
            EDGES.is("by " + far, -1, x.law(0, far));
        }
        EDGES.is("the tape stays", 20, x.count(2));
        EDGES.is("its bytes stay", 1, x.law(0, 6));
        for (int i = 0; i < 11; i++) {
            x.feed(0x6e28313d, 0x31290000, 0, 0, 0);
        }
        EDGES.is("201 of 220", -1, x.law(0, 201));
        EDGES.is("220 of 220", -1, x.law(0, 220));
        EDGES.is("the tape stays", 220, x.count(2));
        EDGES.is("200 of 220", -1006, x.law(0, 200));
        EDGES.is("all 220 are gone", 0, x.count(2));
        x.feed(0x6e28313d, 0x31297e7e, 0, 0, 0);
        EDGES.is("all that it has", -1006, x.law(0, 20));
    }

    private static void act() {
        EDGES.words("Promise 6", "An ACT: how many its OWNER has; NONE: no such ones, 5 are there.");
        BellHours x = Edges.owned(0);
        int[][] wrong = {{-1, 0, 0, 0}, {12, 0, 0, 0}, {0, -1, 0, 0}, {0, 7, 0, 0}, {0, 0, -1, 0}, {0, 0, 8, 0},
            {0, 0, 0, -1}, {0, 0, 0, 100}};
        for (int[] w : wrong) {
            EDGES.is("a wrong one", -1, x.act(w[0], w[1], w[2], w[3]));
        }
        for (int far : FAR) {
            EDGES.is("OWNER " + far, -1, x.act(far, 0, 0, 0));
            EDGES.is("KIND " + far, -1, x.act(0, far, 0, 0));
            EDGES.is("ROOM " + far, -1, x.act(0, 0, far, 0));
            EDGES.is("AMOUNT " + far, -1, x.act(0, 0, 0, far));
        }
        EDGES.is("none is there", 0, x.count(10));
        for (int o = 0; o < 12; o++) {
            for (int i = 1; i <= 5; i++) {
                EDGES.is("of " + o, i, x.act(o, 6, 7, 10 + i));
            }
        }
        for (int o = 0; o < 12; o++) {
            EDGES.is("a sixth of " + o, -1, x.act(o, 0, 0, 99));
            EDGES.is("5 are there", 5, x.count(10 + o));
        }
        Due.law(x, 0, "wa(1=1)");
        EDGES.is("the five stay", 11 + 12 + 13 + 14 + 15, x.hourIs(0, 1));
        EDGES.is("one without an HOUR may have ACTS", 0, x.value(11, 1));
    }

    private static void noActs() {
        EDGES.words("Promise 7", "ACTS of an OWNER fall: how many; NONE: no such one.");
        BellHours x = Edges.owned(0, 11);
        for (int i = 0; i < 5; i++) {
            x.act(0, 0, 0, 1);
            x.act(11, 0, 0, 2);
        }
        Due.law(x, 0, "wa(1=1)");
        EDGES.is("OWNER -1", -1, x.noActs(-1));
        EDGES.is("OWNER 12", -1, x.noActs(12));
        for (int far : FAR) {
            EDGES.is("OWNER " + far, -1, x.noActs(far));
        }
        EDGES.is("all five are done", 10, x.hourIs(1, 1));
        EDGES.is("five", 5, x.noActs(11));
        EDGES.is("none is done", 0, x.hourIs(1, 1));
        EDGES.is("none is left", 0, x.noActs(11));
        EDGES.is("none ever was", 0, x.noActs(5));
        EDGES.is("those of 0 stay", 5, x.hourIs(0, 1));
        EDGES.is("there is room again", 1, x.act(11, 0, 0, 7));
        EDGES.is("the new one alone", 7, x.hourIs(1, 1));
        EDGES.is("five of the first OWNER", 5, x.noActs(0));
    }

    private static void found() {
        EDGES.words("Promise 8", "What an HOUR (24: the end) finds in a ROOM, what 0 STORE, 1 DIRT, 2 HEAT; NONE: no "
            + "such ones.");
        BellHours x = new BellHours();
        x.own(23, 4);
        x.room(7, 50, 60, 70);
        x.act(4, 0, 7, 0);
        Due.law(x, 0, "s1(1=1);d2(1=1);h3(1=1)");
        for (int what = 0; what < 3; what++) {
            EDGES.is("HOUR 0", 50 + 10 * what, x.found(0, 7, what));
            EDGES.is("HOUR 23", 50 + 10 * what, x.found(23, 7, what));
            EDGES.is("the end", 51 + 11 * what, x.found(24, 7, what));
            EDGES.is("ROOM 0 at the end", 0, x.found(24, 0, what));
        }
        int[][] wrong = {{-1, 7, 0}, {25, 7, 0}, {0, -1, 0}, {0, 8, 0}, {0, 7, -1}, {0, 7, 3}, {24, 8, 0}, {24, 7, 3}};
        for (int[] w : wrong) {
            EDGES.is("a wrong one", -1, x.found(w[0], w[1], w[2]));
        }
        for (int far : FAR) {
            EDGES.is("HOUR " + far, -1, x.found(far, 7, 0));
            EDGES.is("ROOM " + far, -1, x.found(0, far, 0));
            EDGES.is("what " + far, -1, x.found(0, 7, far));
        }
    }

    private static void hourIs() {
        EDGES.words("Promise 9", "Of an HOUR, what 0 the OWNER (12: nobody), 1 worths, 2 FINES, 3 how many ACTS were "
            + "not done, "
            + "4 the first of these (NONE: none); -1000000: no such ones.");
        BellHours x = new BellHours();
        x.own(0, 11);
        x.own(23, 0);
        for (int i = 0; i < 5; i++) {
            x.act(11, i, 0, 0);
            x.act(0, i, 0, 0);
        }
        Due.law(x, 0, "n(t=0&k=4);n(t=23);w3(1=1);f1(1=1)");
        int[] first = {11, 12, 8, 1, 4};
        int[] last = {0, 0, 8, 5, 0};
        int[] nobodys = {12, 0, 0, 0, -1};
        for (int what = 0; what < 5; what++) {
            EDGES.is("HOUR 0, " + what, first[what], x.hourIs(0, what));
            EDGES.is("HOUR 23, " + what, last[what], x.hourIs(23, what));
            EDGES.is("nobody's, " + what, nobodys[what], x.hourIs(1, what));
        }
        Due.law(x, 0, "n(k=1|k=3)");
        EDGES.is("two", 2, x.hourIs(0, 3));
        EDGES.is("the first of two", 1, x.hourIs(0, 4));
        Due.law(x, 0, "n(1=2)");
        EDGES.is("all are done", 0, x.hourIs(0, 3));
        EDGES.is("none", -1, x.hourIs(0, 4));
        int[][] wrong = {{-1, 0}, {24, 0}, {0, -1}, {0, 5}, {24, 4}};
        for (int[] w : wrong) {
            EDGES.is("a wrong one", NO, x.hourIs(w[0], w[1]));
        }
        for (int far : FAR) {
            EDGES.is("HOUR " + far, NO, x.hourIs(far, 0));
            EDGES.is("what " + far, NO, x.hourIs(0, far));
        }
    }

    private static void value() {
        EDGES.words("Promise 10", "Of an OWNER, what 0 VALUE, 1 worths, 2 FINES, 3 HOURS (how many); -1000000: no "
            + "such ones.");
        BellHours x = new BellHours();
        x.own(0, 11);
        x.own(23, 11);
        x.own(5, 0);
        x.act(11, 0, 0, 20);
        Due.law(x, 0, "wa+t(1=1);f1(1=1)");
        int[] of11 = {20 + 43 - 16, 63, 16, 2};
        int[] of0 = {-8, 0, 8, 1};
        for (int what = 0; what < 4; what++) {
            EDGES.is("OWNER 11, " + what, of11[what], x.value(11, what));
            EDGES.is("OWNER 0, " + what, of0[what], x.value(0, what));
            EDGES.is("one without an HOUR, " + what, 0, x.value(5, what));
        }
        int[][] wrong = {{-1, 0}, {12, 0}, {0, -1}, {0, 4}, {12, 3}, {-1, 3}};
        for (int[] w : wrong) {
            EDGES.is("a wrong one", NO, x.value(w[0], w[1]));
        }
        for (int far : FAR) {
            EDGES.is("OWNER " + far, NO, x.value(far, 0));
            EDGES.is("what " + far, NO, x.value(0, far));
        }
        for (int h = 0; h < 24; h++) {
            x.own(h, 3);
        }
        EDGES.is("all HOURS", 24, x.value(3, 3));
        EDGES.is("no more", 0, x.value(11, 3));
    }
}

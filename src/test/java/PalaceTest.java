/** Promises 19 to 28: who TOUCHES, a THING hidden, THE VASE, GUESTS, the dead, HOURS drawn. */
public final class PalaceTest {
    private static final Due DUE = new Due("PalaceTest");
    private static final int[] FAR = {Integer.MIN_VALUE, Integer.MAX_VALUE};

    public static void main(String[] args) {
        touching();
        hiddenWithoutMoves();
        hiddenWithMoves();
        hiddenWrong();
        holds();
        liars();
        guilty();
        guest();
        dies();
        draw();
        wrongInputs();
        DUE.end();
    }

    private static BellHours owned(int... owners) {
        BellHours x = new BellHours();
        for (int h = 0; h < owners.length; h++) {
            x.own(h, owners[h]);
        }
        return x;
    }

    private static void touching() {
        BellHours x = owned(0, 1, 0, 0, 2, -1, 1);
        DUE.is("0 and 1", 2, x.touching(0, 1));
        DUE.is("1 and 0", 2, x.touching(1, 0));
        DUE.is("0 and 2", 1, x.touching(0, 2));
        DUE.is("1 and 2", 0, x.touching(1, 2));
        x.own(23, 2);
        DUE.is("23 and 0, too", 2, x.touching(0, 2));
        DUE.is("one twice", -1, x.touching(2, 2));
        DUE.is("no such one", -1, x.touching(-1, 0));
        DUE.is("no such one", -1, x.touching(0, 12));
        DUE.is("without HOURS", 0, x.touching(10, 11));
    }

    private static void hiddenWithoutMoves() {
        BellHours x = owned(0, 1, -1, 2);
        DUE.is("nobody looks", 0, x.hidden(0, 24, 0, -1));
        DUE.is("in ROOM 0", 0, x.hidden(0, 24, 0, 12));
        DUE.yes("searches", x.searches(0, 1 + 2));
        DUE.yes("searches", x.searches(1, 4 + 16));
        DUE.is("no moves", 0, x.hidden(0, 4, 4095, -1));
        DUE.is("in ROOM 3", 3, x.hidden(0, 4, 4095, 0));
        DUE.is("in ROOM 3 till the end", 3, x.hidden(0, 4, 4095, 3));
        DUE.is("from 1 on: ROOM 0", 0, x.hidden(1, 4, 0, 1));
        DUE.yes("searches", x.searches(2, 255));
        DUE.is("up to 3, not with it", 0, x.hidden(0, 3, 0, -1));
        DUE.is("with 3", -2, x.hidden(0, 4, 4095, -1));
        DUE.is("with 3, a ROOM", -2, x.hidden(0, 4, 4095, 0));
        DUE.is("3 alone", -2, x.hidden(3, 4, 4095, 3));
        DUE.is("behind it", 0, x.hidden(4, 24, 0, 23));
        DUE.yes("no more", x.searches(2, 0));
        DUE.is("with 3 again", 0, x.hidden(0, 4, 0, -1));
    }

    private static void hiddenWithMoves() {
        BellHours x = owned(0, 1, 2, 0, 1);
        x.searches(0, 255 - 4);
        x.searches(1, 255 - 8 - 16);
        DUE.is("without helpers", -2, x.hidden(0, 5, 0, -1));
        DUE.is("1 alone helps", -2, x.hidden(0, 5, 2, -1));
        DUE.is("1 is enough for two", 1, x.hidden(0, 2, 2, -1));
        DUE.is("the one that goes away does not help", -2, x.hidden(0, 2, 1, -1));
        DUE.is("moves", 3, x.hidden(0, 5, 3, -1));
        int[] row = {2, 3, 3, 2, 3};
        for (int h = 0; h < 5; h++) {
            DUE.is("in HOUR " + h, row[h], x.hidden(0, 5, 3, h));
        }
        DUE.is("2 helps as well", 3, x.hidden(0, 5, 4 + 2 + 1, -1));
        DUE.is("the least row moves in 2", 2, x.hidden(0, 5, 4 + 2 + 1, 2));
        DUE.is("2 in place of 0", 3, x.hidden(0, 5, 4 + 2, -1));
        DUE.is("then it must", 2, x.hidden(0, 5, 4 + 2, 2));
        BellHours y = owned(0);
        y.searches(0, 1);
        DUE.is("ROOM 1", 1, y.hidden(0, 1, 0, 0));
        y.searches(0, 255 - 128);
        DUE.is("ROOM 7", 7, y.hidden(0, 1, 0, 0));
        DUE.is("fewer moves go ahead of a lower row", 0, x.hidden(1, 3, 4095, -1));
        DUE.is("fewer moves go ahead of a lower row", 3, x.hidden(1, 3, 4095, 2));
    }

    private static void hiddenWrong() {
        BellHours x = new BellHours();
        int[][] wrong = {{0, 0, 0, -1}, {5, 4, 0, -1}, {-1, 4, 0, -1}, {0, 25, 0, -1}, {24, 25, 0, -1}, {24, 24, 0, -1},
            {0, 4, -1, -1}, {0, 4, 4096, -1}, {0, 4, 0, 4}, {2, 4, 0, 1}, {0, 4, 0, -2}};
        for (int[] w : wrong) {
            DUE.is("hidden", -3, x.hidden(w[0], w[1], w[2], w[3]));
        }
        DUE.is("the whole day", 0, x.hidden(0, 24, 4095, 23));
        DUE.is("the last HOUR", 0, x.hidden(23, 24, 0, 23));
        DUE.no("searches", x.searches(-1, 0));
        DUE.no("searches", x.searches(12, 0));
        DUE.no("searches", x.searches(0, -1));
        DUE.no("searches", x.searches(0, 256));
    }

    private static void holds() {
        BellHours x = owned(0, 1, 2, -1, 3);
        int unbroken = 1 << 24;
        DUE.is("no words", 1 + 2 + 4 + 16 + unbroken, x.holds(0));
        DUE.yes("1 found it whole", x.says(1, 0));
        DUE.is("not in 0", 2 + 4 + 16 + unbroken, x.holds(0));
        DUE.yes("3 found it broken", x.says(4, 1));
        DUE.is("ahead of 4, or by 3 itself", 2 + 4 + 16, x.holds(0));
        DUE.yes("a word of nobody's HOUR", x.says(3, 0));
        DUE.is("is not asked", 2 + 4 + 16, x.holds(0));
        DUE.yes("2 found it broken", x.says(2, 1));
        DUE.is("in 1, or by 2 itself", 2 + 4, x.holds(0));
        DUE.yes("2 says nothing", x.says(2, 2));
        DUE.is("as before", 2 + 4 + 16, x.holds(0));
        x.own(6, 1);
        x.says(6, 0);
        DUE.is("one OWNER's words all fall", 2, x.holds(0));
    }

    private static void liars() {
        BellHours x = owned(0, 1, 0, 1, 2);
        x.says(1, 1);
        x.says(3, 1);
        x.says(2, 0);
        DUE.is("none lies: by 0 or by 1", 1 + 8, x.holds(0));
        DUE.is("one lies", 1 + 2 + 4 + 8 + 16 + (1 << 24), x.holds(1));
        DUE.is("all may lie", 31 + (1 << 24), x.holds(12));
        x.says(4, 1);
        x.says(2, 2);
        DUE.is("an OWNER that lies twice is one", 31, x.holds(1) & 31);
        DUE.is("two lie if it did not break", 0, x.holds(1) >> 24);
        DUE.is("two may", 1, x.holds(2) >> 24);
    }

    private static void guilty() {
        BellHours one = owned(3);
        DUE.is("one OWNER alone, but it may be whole", -2, one.guilty(0));
        DUE.is("all may lie", -2, one.guilty(12));
        BellHours first = owned(3, 4, 3);
        first.says(1, 1);
        first.says(2, 0);
        DUE.is("in HOUR 0", 3, first.guilty(0));
        first.says(0, 1);
        first.own(5, 6);
        first.says(5, 1);
        DUE.is("in HOUR 0 again", 1, first.holds(0));
        BellHours early = owned(7, 8);
        early.says(0, 1);
        DUE.is("broken ahead of HOUR 0 is untrue, but by itself", 1, early.holds(0));
        BellHours x = owned(5, 6, 5);
        DUE.is("it may be whole", -2, x.guilty(0));
        x.own(10, 7);
        x.own(11, 8);
        x.says(10, 1);
        x.says(11, 1);
        DUE.is("5 or 6", -2, x.guilty(0));
        x.own(1, 5);
        DUE.is("5, or the first that found it broken", -2, x.guilty(0));
        DUE.is("three HOURS and 10", 7 + (1 << 10), x.holds(0));
        x.own(12, 5);
        x.says(12, 0);
        DUE.is("5 in one of three", 5, x.guilty(0));
        DUE.is("three HOURS", 7, x.holds(0));
        DUE.is("not surely if one lies", -2, x.guilty(1));
        x.says(0, 1);
        DUE.is("its words count for nothing", 5, x.guilty(0));
        x.own(3, 9);
        x.own(4, 10);
        x.says(3, 1);
        x.says(4, 0);
        DUE.is("nothing holds", 0, x.holds(0));
        DUE.is("nobody is guilty", -2, x.guilty(0));
        DUE.is("no such number", -1, x.guilty(-1));
        DUE.is("no such number", -1, x.guilty(13));
        DUE.is("no such number", -1, x.holds(-1));
        DUE.is("no such number", -1, x.holds(13));
    }

    private static void guest() {
        BellHours x = owned(4, 2, 4, -1, 9, 4);
        DUE.is("4: 3 of 5", 60, x.guest(0, 6, 100, 4));
        DUE.is("2: 1 of 5", 20, x.guest(0, 6, 100, 2));
        DUE.is("2 with a penny", 1 + 20, x.guest(0, 6, 104, 2));
        DUE.is("4 with a penny", 1 + 62, x.guest(0, 6, 104, 4));
        DUE.is("9 without one", 20, x.guest(0, 6, 104, 9));
        DUE.is("all is paid", 104, x.guest(0, 6, 104, 2) + x.guest(0, 6, 104, 4) + x.guest(0, 6, 104, 9));
        DUE.is("one penny to the lowest", 1, x.guest(0, 6, 1, 2));
        DUE.is("none to the next", 0, x.guest(0, 6, 1, 4));
        DUE.is("the lowest with some HOUR of the stay", 1, x.guest(4, 6, 1, 4));
        DUE.is("not one that has another HOUR", 0, x.guest(4, 6, 1, 2));
        DUE.is("nobody's alone", 0, x.guest(3, 4, 99, 4));
        DUE.is("not with the last", 0, x.guest(0, 4, 99, 9));
        DUE.is("without an HOUR", 0, x.guest(0, 24, 99999, 0));
        x.own(8, 0);
        x.own(9, 1);
        DUE.is("the lowest of all", 3, x.guest(8, 10, 5, 0));
        DUE.is("the next", 2, x.guest(8, 10, 5, 1));
        DUE.is("all pence", 99999, x.guest(4, 5, 99999, 9));
        DUE.is("no pence", 0, x.guest(0, 24, 0, 4));
        int[][] wrong = {{-1, 3, 5, 0}, {3, 3, 5, 0}, {4, 3, 5, 0}, {0, 25, 5, 0}, {24, 24, 5, 0}, {0, 3, -1, 0},
            {0, 3, 100000, 0}, {0, 3, 5, -1}, {0, 3, 5, 12}};
        for (int[] w : wrong) {
            DUE.is("guest", -1, x.guest(w[0], w[1], w[2], w[3]));
        }
    }

    private static void dies() {
        BellHours x = owned(0, 0, 1, 0, 0, 2, -1, 0, 1);
        x.own(23, 3);
        x.act(0, 0, 0, 0);
        x.act(1, 0, 0, 0);
        x.searches(0, 255);
        x.searches(3, 255);
        DUE.is("the DAY ahead of it", 0, x.hourIs(0, 0));
        DUE.is("had five HOURS", 5, x.dies(0));
        int[] then = {3, 3, 1, 1, 1, 2, 12, 12, 1};
        for (int h = 0; h < then.length; h++) {
            DUE.is("HOUR " + h, then[h], x.hourIs(h, 0));
        }
        DUE.is("its ACTS fall", 0, x.count(10));
        DUE.is("those of others stay", 1, x.count(11));
        x.own(20, 0);
        DUE.is("its SEARCHES fall", 0, x.hidden(20, 21, 0, -1));
        DUE.is("all of them", 0, x.hidden(20, 21, 0, 20));
        DUE.is("those of others stay", -2, x.hidden(23, 24, 0, -1));
        DUE.is("without an HOUR", 0, x.dies(11));
        DUE.is("no such one", -1, x.dies(-1));
        DUE.is("no such one", -1, x.dies(12));
        for (int h = 0; h < 24; h++) {
            x.own(h, 7);
        }
        DUE.is("all HOURS", 24, x.dies(7));
        DUE.is("to nobody", 0, x.count(4));
        BellHours y = owned(5);
        y.own(20, 6);
        for (int h = 21; h < 24; h++) {
            y.own(h, 5);
        }
        DUE.is("round the day", 4, y.dies(5));
        DUE.is("of 0", 6, y.hourIs(0, 0));
        DUE.is("of 21", 6, y.hourIs(21, 0));
    }

    private static void draw() {
        BellHours x = new BellHours();
        DUE.is("one", 1, x.draw(1));
        DUE.is("X", 39022, x.count(3));
        DUE.is("HOUR 22", 5, x.hourIs(22, 0));
        DUE.yes("the least seed", x.seed(0));
        DUE.is("X is it", 0, x.count(3));
        DUE.is("two", 2, x.draw(1));
        DUE.is("X", 13849, x.count(3));
        DUE.is("HOUR 1", 577 % 12, x.hourIs(1, 0));
        DUE.yes("the greatest seed", x.seed(65535));
        DUE.is("X is it", 65535, x.count(3));
        long seed = 65535;
        int[] owners = new int[24];
        java.util.Arrays.fill(owners, 12);
        owners[22] = 5;
        owners[1] = 577 % 12;
        for (int i = 0; i < 40; i++) {
            seed = (25173 * seed + 13849) % 65536;
            owners[(int) (seed % 24)] = (int) (seed / 24 % 12);
        }
        int have = (int) java.util.Arrays.stream(owners).filter(o -> o < 12).count();
        DUE.is("forty", have, x.draw(40));
        DUE.is("X", seed, x.count(3));
        for (int h = 0; h < 24; h++) {
            DUE.is("HOUR " + h, owners[h], x.hourIs(h, 0));
        }
        DUE.is("none", -1, x.draw(0));
        DUE.is("too many", -1, x.draw(41));
        DUE.no("below 0", x.seed(-1));
        DUE.no("above 65535", x.seed(65536));
        DUE.is("X stays", seed, x.count(3));
    }

    private static void wrongInputs() {
        BellHours x = new BellHours();
        for (int far : FAR) {
            DUE.is("touching", -1, x.touching(far, 0));
            DUE.is("touching", -1, x.touching(0, far));
            DUE.no("searches", x.searches(far, 0));
            DUE.no("searches", x.searches(0, far));
            DUE.is("hidden", -3, x.hidden(far, 24, 0, -1));
            DUE.is("hidden", -3, x.hidden(0, far, 0, -1));
            DUE.is("hidden", -3, x.hidden(0, 24, far, -1));
            DUE.is("hidden", -3, x.hidden(0, 24, 0, far));
            DUE.no("says", x.says(far, 0));
            DUE.no("says", x.says(0, far));
            DUE.is("holds", -1, x.holds(far));
            DUE.is("guilty", -1, x.guilty(far));
            DUE.is("guest", -1, x.guest(far, 24, 0, 0));
            DUE.is("guest", -1, x.guest(0, far, 0, 0));
            DUE.is("guest", -1, x.guest(0, 24, far, 0));
            DUE.is("guest", -1, x.guest(0, 24, 0, far));
            DUE.is("dies", -1, x.dies(far));
            DUE.no("seed", x.seed(far));
            DUE.is("draw", -1, x.draw(far));
        }
        DUE.no("says", x.says(-1, 0));
        DUE.no("says", x.says(24, 0));
        DUE.no("says", x.says(0, -1));
        DUE.no("says", x.says(0, 3));
        DUE.is("the word stays", 2, x.count(30));
    }
}

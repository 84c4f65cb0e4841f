/** Edges of who TOUCHES, a THING hidden, THE VASE, GUESTS, the dead and HOURS drawn: promises 19 to 28. */
public final class EdgesOfPalaceTest {
    private static final Edges EDGES = new Edges("EdgesOfPalaceTest");
    private static final int NO = -1000000;
    private static final int WHOLE = 1 << 24;
    private static final int[] FAR = {Integer.MIN_VALUE, Integer.MIN_VALUE + 1, -65536, -256, 256, 65536, Integer.MAX_VALUE};

    public static void main(String[] args) {
        oneBehindTheOther();
        touching();
        looksIntoRooms();
        searches();
        hiddenFromTo();
        notLookedInto();
        inAnotherRoom();
        fewestMoves();
        hidden();
        vaseBroke();
        words();
        says();
        holdsIf();
        holds();
        guiltyIf();
        guilty();
        byHours();
        leftOver();
        guest();
        nearestHourAhead();
        dies();
        seed();
        drawn();
        draw();
        EDGES.end();
    }

    private static BellHours alternating(int one, int other) {
        BellHours x = new BellHours();
        for (int h = 0; h < 24; h++) {
            x.own(h, h % 2 == 0 ? one : other);
        }
        return x;
    }

    private static void oneBehindTheOther() {
        EDGES.words("Terms", "TOUCHING are two HOURS one behind the other (23 and 0, too): how often an HOUR of one "
            + "OWNER and one of another one do.");
        EDGES.is("all HOURS", 24, alternating(0, 11).touching(0, 11));
        EDGES.is("all HOURS, turned round", 24, alternating(0, 11).touching(11, 0));
        BellHours x = new BellHours();
        x.own(23, 4);
        x.own(0, 5);
        EDGES.is("23 and 0 alone", 1, x.touching(4, 5));
        EDGES.is("turned round", 1, x.touching(5, 4));
        x.own(0, -1);
        x.own(22, 5);
        EDGES.is("22 and 23 alone", 1, x.touching(4, 5));
        x.own(0, 5);
        EDGES.is("on both sides", 2, x.touching(4, 5));
        BellHours y = Edges.owned(4, -1, 5, 6, 5, 4, 4);
        EDGES.is("nobody's between, another one's between", 1, y.touching(4, 5));
        EDGES.is("5 and 6", 2, y.touching(5, 6));
        EDGES.is("4 and 6", 0, y.touching(4, 6));
    }

    private static void touching() {
        EDGES.words("Promise 19", "TOUCHING: how often; NONE: no such ones, one twice.");
        BellHours x = Edges.owned(0, 11);
        EDGES.is("the first and the last OWNER", 1, x.touching(0, 11));
        EDGES.is("without HOURS", 0, x.touching(5, 6));
        EDGES.is("one has HOURS", 0, x.touching(0, 6));
        EDGES.is("one twice", -1, x.touching(0, 0));
        EDGES.is("one without HOURS twice", -1, x.touching(6, 6));
        EDGES.is("OWNER -1", -1, x.touching(-1, 0));
        EDGES.is("OWNER 12", -1, x.touching(0, 12));
        EDGES.is("OWNER 12 first", -1, x.touching(12, 0));
        EDGES.is("OWNER -1 second", -1, x.touching(0, -1));
        for (int far : FAR) {
            EDGES.is("OWNER a " + far, -1, x.touching(far, 0));
            EDGES.is("OWNER b " + far, -1, x.touching(0, far));
        }
    }

    private static void looksIntoRooms() {
        EDGES.words("Terms", "SEARCHES: an OWNER looks into some ROOMS (bits; none at first) in each of its HOURS");
        BellHours x = Edges.owned(0, -1, 0);
        x.own(23, 0);
        EDGES.is("none at first", 0, x.hidden(0, 1, 0, 0));
        for (int r = 0; r < 8; r++) {
            x.searches(0, 1 << r);
            EDGES.is("into ROOM " + r, r == 0 ? 1 : 0, x.hidden(0, 1, 0, 0));
            x.searches(0, 255 - (1 << r));
            EDGES.is("into all but ROOM " + r, r, x.hidden(0, 1, 0, 0));
            EDGES.is("in its second HOUR, too", r, x.hidden(2, 3, 0, 2));
            EDGES.is("in its last HOUR, too", r, x.hidden(23, 24, 0, 23));
        }
        EDGES.is("not in nobody's HOUR", 0, x.hidden(1, 2, 0, 1));
    }

    private static void searches() {
        EDGES.words("Promise 20", "SEARCHES (ROOMS as bits): true; false: no such ones.");
        BellHours x = Edges.owned(0);
        x.own(23, 11);
        EDGES.yes("all ROOMS", x.searches(0, 255));
        EDGES.yes("all ROOMS of the last OWNER", x.searches(11, 255));
        EDGES.is("nowhere", -2, x.hidden(0, 1, 4095, -1));
        EDGES.is("nowhere", -2, x.hidden(23, 24, 4095, -1));
        EDGES.yes("none of the last OWNER", x.searches(11, 0));
        EDGES.is("anywhere", 0, x.hidden(23, 24, 0, -1));
        EDGES.no("OWNER -1", x.searches(-1, 0));
        EDGES.no("OWNER 12", x.searches(12, 0));
        EDGES.no("ROOM 8", x.searches(0, 256));
        EDGES.no("ROOMS -1", x.searches(0, -1));
        for (int far : FAR) {
            EDGES.no("OWNER " + far, x.searches(far, 0));
            EDGES.no("ROOMS " + far, x.searches(0, far));
        }
        EDGES.is("nowhere still", -2, x.hidden(0, 1, 4095, -1));
        EDGES.yes("in place of those before", x.searches(0, 2));
        EDGES.is("ROOM 0 is free", 0, x.hidden(0, 1, 0, 0));
    }

    private static void hiddenFromTo() {
        EDGES.words("Terms", "A THING lies hidden from an HOUR to another one (not with it; 0 to 24)");
        BellHours x = Edges.owned(0, 1, 2);
        x.own(22, 0);
        x.own(23, 1);
        x.searches(0, 255);
        x.searches(2, 255);
        EDGES.is("1 to 2", 0, x.hidden(1, 2, 0, -1));
        EDGES.is("1 to 3 has 2", -2, x.hidden(1, 3, 4095, -1));
        EDGES.is("0 to 2 has 0", -2, x.hidden(0, 2, 4095, -1));
        EDGES.is("3 to 22", 0, x.hidden(3, 22, 0, -1));
        EDGES.is("3 to 23 has 22", -2, x.hidden(3, 23, 0, -1));
        EDGES.is("23 to 24", 0, x.hidden(23, 24, 0, -1));
        EDGES.is("not round the day", 0, x.hidden(23, 24, 0, 23));
        EDGES.is("0 to 24", -2, x.hidden(0, 24, 4095, -1));
        EDGES.is("0 to 24 of a new palace", 0, new BellHours().hidden(0, 24, 0, 0));
    }

    private static void notLookedInto() {
        EDGES.words("Terms", "in each HOUR in a ROOM into which its OWNER does not look");
        BellHours x = Edges.owned(0, 1, -1, 2);
        x.searches(0, 1 + 2 + 4);
        x.searches(1, 8 + 16);
        x.searches(2, 32 + 64);
        EDGES.is("ROOM 7 alone", 0, x.hidden(0, 4, 0, -1));
        for (int h = 0; h < 4; h++) {
            EDGES.is("ROOM 7 in HOUR " + h, 7, x.hidden(0, 4, 0, h));
        }
        x.searches(2, 32 + 64 + 128);
        EDGES.is("no ROOM", -2, x.hidden(0, 4, 0, -1));
        EDGES.is("no ROOM in HOUR 0", -2, x.hidden(0, 4, 0, 0));
    }

    private static void inAnotherRoom() {
        EDGES.words("Terms", "it may be in another ROOM than in the HOUR ahead if a HELPER (OWNERS as bits) owns that "
            + "HOUR "
            + "(in the first one it may be anywhere)");
        BellHours x = Edges.owned(0, 11);
        x.searches(0, 255 - 1);
        x.searches(11, 255 - 128);
        EDGES.is("no HELPER", -2, x.hidden(0, 2, 0, -1));
        EDGES.is("the one ahead does not help", -2, x.hidden(0, 2, 1, -1));
        EDGES.is("others do not help", -2, x.hidden(0, 2, 2047, -1));
        EDGES.is("the last OWNER helps", 1, x.hidden(0, 2, 2048, -1));
        EDGES.is("from ROOM 0", 0, x.hidden(0, 2, 2048, 0));
        EDGES.is("to ROOM 7", 7, x.hidden(0, 2, 2048, 1));
        EDGES.is("all help", 1, x.hidden(0, 2, 4095, -1));
        EDGES.is("in the first HOUR anywhere, without a move", 0, x.hidden(1, 2, 0, -1));
        EDGES.is("in the first HOUR anywhere", 7, x.hidden(1, 2, 0, 1));
        x.swap(0, 1);
        EDGES.is("OWNER 0 helps", 1, x.hidden(0, 2, 1, -1));
        BellHours y = Edges.owned(0, -1, 1);
        y.searches(0, 255 - 1);
        y.searches(1, 255 - 2);
        EDGES.is("nobody does not help", -2, y.hidden(0, 3, 4095 - 2, -1));
        EDGES.is("behind nobody's", 1, y.hidden(0, 3, 2, -1));
        EDGES.is("it stays in nobody's HOUR", 0, y.hidden(0, 3, 2, 1));
    }

    private static void fewestMoves() {
        EDGES.words("Terms", "fewest moves; of like ones the least row of ROOMS");
        BellHours x = alternating(0, 1);
        x.searches(0, 1);
        x.searches(1, 254);
        EDGES.is("it must move each HOUR", 23, x.hidden(0, 24, 3, -1));
        for (int h = 0; h < 24; h++) {
            EDGES.is("in HOUR " + h, h % 2 == 0 ? 1 : 0, x.hidden(0, 24, 3, h));
        }
        x.searches(1, 1 + 2);
        EDGES.is("no move", 0, x.hidden(0, 24, 3, -1));
        EDGES.is("no move goes ahead of a lower row", 2, x.hidden(0, 24, 3, 0));
        BellHours y = Edges.owned(0, 0, 0, 1);
        y.searches(1, 1);
        EDGES.is("no move", 0, y.hidden(0, 4, 4095, -1));
        EDGES.is("in ROOM 1 from the first on", 1, y.hidden(0, 4, 4095, 0));
        y.own(4, 2);
        y.searches(2, 255 - 1);
        int[] late = {1, 1, 1, 1, 0};
        EDGES.is("one move", 1, y.hidden(0, 5, 4095, -1));
        for (int h = 0; h < 5; h++) {
            EDGES.is("as late as it must", late[h], y.hidden(0, 5, 4095, h));
        }
        BellHours z = Edges.owned(0, 1, 1, 2);
        z.searches(0, 255 - 8);
        z.searches(2, 255 - 4);
        int[] early = {3, 2, 2, 2};
        EDGES.is("one move", 1, z.hidden(0, 4, 4095, -1));
        for (int h = 0; h < 4; h++) {
            EDGES.is("to a lower ROOM at once", early[h], z.hidden(0, 4, 4095, h));
        }
        z.searches(0, 255 - 4);
        z.searches(2, 255 - 8);
        int[] last = {2, 2, 2, 3};
        for (int h = 0; h < 4; h++) {
            EDGES.is("to a higher ROOM at last", last[h], z.hidden(0, 4, 4095, h));
        }
    }

    private static void hidden() {
        EDGES.words("Promise 21", "A THING hidden, what NONE moves, else the ROOM in HOUR what; -2: it can't be; -3: "
            + "no such ones "
            + "(to above from), an HOUR that is not in it.");
        BellHours x = new BellHours();
        int[][] wrong = {{0, 0, 0, -1}, {5, 5, 0, -1}, {24, 24, 0, -1}, {5, 4, 0, -1}, {24, 0, 0, -1}, {-1, 4, 0, -1},
            {0, 25, 0, -1}, {24, 25, 0, -1}, {0, 4, -1, -1}, {0, 4, 4096, -1}, {2, 4, 0, 1}, {2, 4, 0, 4}, {2, 4, 0, 0},
            {2, 4, 0, 24}, {2, 4, 0, -2}};
        for (int[] w : wrong) {
            EDGES.is(w[0] + " to " + w[1] + " by " + w[2] + ", " + w[3], -3, x.hidden(w[0], w[1], w[2], w[3]));
        }
        for (int far : FAR) {
            EDGES.is("from " + far, -3, x.hidden(far, 24, 0, -1));
            EDGES.is("to " + far, -3, x.hidden(0, far, 0, -1));
            EDGES.is("what " + far, -3, x.hidden(0, 24, 0, far));
        }
        EDGES.is("helpers below 0", -3, x.hidden(0, 24, Integer.MIN_VALUE, -1));
        EDGES.is("helpers far above", -3, x.hidden(0, 24, Integer.MAX_VALUE, -1));
        EDGES.is("the first HOUR of it", 0, x.hidden(2, 4, 4095, 2));
        EDGES.is("the last HOUR of it", 0, x.hidden(2, 4, 4095, 3));
        EDGES.is("moves", 0, x.hidden(2, 4, 4095, -1));
        x.own(3, 0);
        x.searches(0, 255);
        EDGES.is("it can't be", -2, x.hidden(2, 4, 4095, -1));
        EDGES.is("it can't be in HOUR 2", -2, x.hidden(2, 4, 4095, 2));
        EDGES.is("it can't be in HOUR 3", -2, x.hidden(2, 4, 4095, 3));
        EDGES.is("it can be up to 3", 0, x.hidden(2, 3, 4095, 2));
    }

    private static void vaseBroke() {
        EDGES.words("Terms", "THE VASE was whole ahead of HOUR 0 and broke in one HOUR that is owned, or not at all");
        BellHours x = new BellHours();
        EDGES.is("no HOUR is owned", WHOLE, x.holds(0));
        EDGES.is("no HOUR is owned, all may lie", WHOLE, x.holds(12));
        x.own(0, 3);
        x.own(23, 4);
        EDGES.is("HOURS 0 and 23", 1 + (1 << 23) + WHOLE, x.holds(0));
        x.says(0, 1);
        EDGES.is("whole ahead of HOUR 0", 1, x.holds(0));
        for (int h = 0; h < 24; h++) {
            x.own(h, h % 12);
        }
        x.says(0, 2);
        EDGES.is("all HOURS", (1 << 25) - 1, x.holds(0));
    }

    private static void words() {
        EDGES.words("Terms", "of each HOUR what its OWNER says it found: 0 it was whole, 1 it was broken (already "
            + "when the HOUR began), 2 nothing (at first)");
        BellHours x = Edges.owned(0, 1, 2);
        for (int h = 0; h < 24; h++) {
            EDGES.is("at first, HOUR " + h, 2, x.count(30 + h));
        }
        x.says(1, 0);
        EDGES.is("1 found it whole: broken in 1 or later", 2 + 4 + WHOLE, x.holds(0));
        x.says(1, 1);
        EDGES.is("1 found it broken: in 0, or by 1 itself", 1 + 2, x.holds(0));
        x.says(1, 2);
        EDGES.is("1 says nothing", 7 + WHOLE, x.holds(0));
        x.says(2, 0);
        EDGES.is("the last found it whole", 4 + WHOLE, x.holds(0));
        x.says(2, 1);
        EDGES.is("the last found it broken", 7, x.holds(0));
    }

    private static void says() {
        EDGES.words("Promise 22", "A WORD of an HOUR: true; false: no such ones.");
        BellHours x = new BellHours();
        for (int word = 0; word < 3; word++) {
            EDGES.yes("HOUR 0", x.says(0, word));
            EDGES.is("HOUR 0", word, x.count(30));
            EDGES.yes("HOUR 23", x.says(23, word));
            EDGES.is("HOUR 23", word, x.count(53));
        }
        x.says(0, 1);
        EDGES.no("WORD 3", x.says(0, 3));
        EDGES.no("WORD -1", x.says(0, -1));
        EDGES.no("HOUR -1", x.says(-1, 0));
        EDGES.no("HOUR 24", x.says(24, 0));
        for (int far : FAR) {
            EDGES.no("HOUR " + far, x.says(far, 0));
            EDGES.no("WORD " + far, x.says(0, far));
        }
        EDGES.is("it stays", 1, x.count(30));
    }

    private static void holdsIf() {
        EDGES.words("Terms", "HOLDS a HOUR (24: it did not break) if at most so many OWNERS (0 to 12) say something "
            + "untrue in some of "
            + "their HOURS, but for whom it broke by (whose words count for nothing then)");
        BellHours x = new BellHours();
        for (int h = 0; h < 12; h++) {
            x.own(h, h);
            x.own(12 + h, h);
            x.says(h, 1);
            x.says(12 + h, 1);
        }
        for (int liars = 0; liars <= 12; liars++) {
            int due = 0;
            for (int broke = 0; broke < 24; broke++) {
                // All that come ahead of it lie; whoever has the HOUR itself is passed over.
                int lie = Math.min(11, broke);
                due |= lie <= liars ? 1 << broke : 0;
            }
            due |= liars == 12 ? WHOLE : 0;
            EDGES.is(liars + " lie", due, x.holds(liars));
        }
        BellHours y = Edges.owned(0, 1, 1, 1, 2);
        y.says(1, 1);
        y.says(2, 1);
        y.says(3, 1);
        EDGES.is("an OWNER lies in three HOURS", 1 + 2 + 4 + 8, y.holds(0));
        EDGES.is("it is one OWNER", 31 + WHOLE, y.holds(1));
        y.says(1, 2);
        y.says(2, 2);
        y.says(4, 0);
        EDGES.is("one of the two lies", 31 + WHOLE, y.holds(1));
        EDGES.is("none HOLDS if none lies", 0, y.holds(0));
    }

    private static void holds() {
        EDGES.words("Promise 23", "HOLDS, as bits of HOURS (24: it did not break); NONE: no such number. "
            + "(Nobody's HOURS: not; their WORDS are not asked.)");
        BellHours x = Edges.owned(3, -1, 4);
        EDGES.is("nobody's HOUR does not", 1 + 4 + WHOLE, x.holds(0));
        x.says(1, 1);
        EDGES.is("its WORD is not asked", 1 + 4 + WHOLE, x.holds(0));
        x.own(1, 5);
        EDGES.is("it is asked of an OWNER", 1 + 2, x.holds(0));
        x.own(1, -1);
        EDGES.is("nobody's again", 1 + 4 + WHOLE, x.holds(0));
        EDGES.is("-1", -1, x.holds(-1));
        EDGES.is("13", -1, x.holds(13));
        EDGES.is("12", 1 + 4 + WHOLE, x.holds(12));
        for (int far : FAR) {
            EDGES.is("" + far, -1, x.holds(far));
        }
    }

    private static void guiltyIf() {
        EDGES.words("Terms", "GUILTY: the one OWNER of all that HOLD, if they are all of one OWNER (and 24 does not "
            + "HOLD)");
        BellHours x = Edges.owned(7);
        EDGES.is("24 HOLDS as well", -2, x.guilty(0));
        x.says(0, 1);
        EDGES.is("HOUR 0 alone", 1, x.holds(0));
        EDGES.is("one HOUR of one OWNER", 7, x.guilty(0));
        EDGES.is("24 HOLDS if one lies", -2, x.guilty(1));
        x.own(1, 7);
        EDGES.is("two HOURS of one OWNER", 7, x.guilty(0));
        x.own(2, 8);
        EDGES.is("7 or 8: 8 cannot have, for 7 would lie", 7, x.guilty(0));
        x.says(0, 2);
        x.says(2, 1);
        EDGES.is("7 or 8", 1 + 2 + 4, x.holds(0));
        EDGES.is("of two OWNERS", -2, x.guilty(0));
        BellHours none = Edges.owned(1, 2, 3, 4);
        none.says(1, 1);
        none.says(2, 0);
        none.says(3, 1);
        EDGES.is("none HOLDS", 0, none.holds(0));
        EDGES.is("none is guilty", -2, none.guilty(0));
        BellHours twice = Edges.owned(1, 2, 3, 4, 3);
        twice.says(1, 0);
        twice.says(2, 1);
        twice.says(3, 1);
        EDGES.is("2 or 3", -2, twice.guilty(0));
        twice.says(4, 0);
        EDGES.is("3 alone: else its two words would not go together", 3, twice.guilty(0));
        BellHours first = Edges.owned(0);
        first.says(0, 1);
        EDGES.is("OWNER 0", 0, first.guilty(0));
        BellHours last = new BellHours();
        last.own(23, 11);
        last.says(23, 1);
        EDGES.is("OWNER 11 in HOUR 23", 11, last.guilty(0));
    }

    private static void guilty() {
        EDGES.words("Promise 24", "GUILTY; -2: none is surely; NONE: no such number.");
        BellHours x = Edges.owned(0);
        EDGES.is("none is surely", -2, x.guilty(0));
        EDGES.is("none is surely if all may lie", -2, x.guilty(12));
        EDGES.is("of a new palace", -2, new BellHours().guilty(0));
        EDGES.is("-1", -1, x.guilty(-1));
        EDGES.is("13", -1, x.guilty(13));
        for (int far : FAR) {
            EDGES.is("" + far, -1, x.guilty(far));
        }
    }

    private static void byHours() {
        EDGES.words("Terms", "A GUEST stays from an HOUR to another one (not with it) and pays so many pence (0 to "
            + "99999) to those "
            + "whose HOURS it has (nobody's: for nothing): by HOURS, rounded down");
        BellHours x = Edges.owned(4, 4, 4, 5, -1, -1, 6);
        EDGES.is("3 of 4 HOURS", 75, x.guest(0, 4, 100, 4));
        EDGES.is("1 of 4 HOURS", 25, x.guest(0, 4, 100, 5));
        EDGES.is("nobody's are for nothing", 75, x.guest(0, 6, 100, 4));
        EDGES.is("not with the last", 0, x.guest(0, 6, 100, 6));
        EDGES.is("with the one ahead", 20, x.guest(0, 7, 100, 6));
        EDGES.is("from the first on", 100, x.guest(3, 4, 100, 5));
        EDGES.is("nobody's alone", 0, x.guest(4, 6, 100, 5));
        EDGES.is("0 pence", 0, x.guest(0, 4, 0, 4));
        EDGES.is("99999 pence to one", 99999, x.guest(0, 3, 99999, 4));
        EDGES.is("99999 pence: 74999 and what is left over", 75000, x.guest(0, 4, 99999, 4));
        EDGES.is("99999 pence: 24999", 24999, x.guest(0, 4, 99999, 5));
    }

    private static void leftOver() {
        EDGES.words("Terms", "what is left over a penny each, to the lowest OWNERS with some HOUR");
        BellHours x = new BellHours();
        for (int h = 0; h < 12; h++) {
            x.own(h, 11 - h);
        }
        for (int pence = 0; pence <= 25; pence++) {
            for (int o = 0; o < 12; o++) {
                EDGES.is(pence + " pence, OWNER " + o, pence / 12 + (o < pence % 12 ? 1 : 0), x.guest(0, 12, pence, o));
            }
        }
        EDGES.is("the lowest of the stay", 1, x.guest(0, 3, 1, 9));
        EDGES.is("not a lower one without an HOUR of it", 0, x.guest(0, 3, 1, 0));
        EDGES.is("two of three", 1, x.guest(0, 3, 2, 10));
        EDGES.is("none for the third", 0, x.guest(0, 3, 2, 11));
        BellHours y = Edges.owned(2, 3, 3, 3, 3);
        EDGES.is("1 of 5 of 4: 0 and a penny", 1, y.guest(0, 5, 4, 2));
        EDGES.is("4 of 5 of 4: 3", 3, y.guest(0, 5, 4, 3));
        BellHours z = Edges.owned(8, -1, 9, -1, -1);
        EDGES.is("nobody's HOURS take nothing of it", 2, z.guest(0, 5, 3, 8));
        EDGES.is("and add nothing", 1, z.guest(0, 5, 3, 9));
    }

    private static void guest() {
        EDGES.words("Promise 25", "What an OWNER gets of a GUEST; NONE: no such ones (to above from).");
        BellHours x = new BellHours();
        for (int h = 0; h < 24; h++) {
            x.own(h, h % 12);
        }
        int[][] wrong = {{0, 0, 5, 0}, {5, 5, 5, 0}, {24, 24, 5, 0}, {5, 4, 5, 0}, {-1, 4, 5, 0}, {0, 25, 5, 0}, {24, 25, 5, 0},
            {0, 24, -1, 0}, {0, 24, 100000, 0}, {0, 24, 5, -1}, {0, 24, 5, 12}};
        for (int[] w : wrong) {
            EDGES.is(w[0] + " to " + w[1] + ", " + w[2] + " pence, OWNER " + w[3], -1, x.guest(w[0], w[1], w[2], w[3]));
        }
        for (int far : FAR) {
            EDGES.is("from " + far, -1, x.guest(far, 24, 5, 0));
            EDGES.is("to " + far, -1, x.guest(0, far, 5, 0));
            EDGES.is("OWNER " + far, -1, x.guest(0, 24, 5, far));
        }
        EDGES.is("far too many pence", -1, x.guest(0, 24, Integer.MAX_VALUE, 0));
        EDGES.is("far too few", -1, x.guest(0, 24, Integer.MIN_VALUE, 0));
        EDGES.is("the whole day, OWNER 0", 8334, x.guest(0, 24, 99999, 0));
        EDGES.is("the whole day, OWNER 11", 8333, x.guest(0, 24, 99999, 11));
        EDGES.is("the first HOUR", 7, x.guest(0, 1, 7, 0));
        EDGES.is("the last HOUR", 7, x.guest(23, 24, 7, 11));
        EDGES.is("another one's HOUR", 0, x.guest(23, 24, 7, 0));
    }

    private static void nearestHourAhead() {
        EDGES.words("Terms", "each HOUR of its goes to the OWNER of the nearest HOUR ahead of it (round the day) that "
            + "is another one's (nobody: to nobody)");
        BellHours x = Edges.owned(5, 5, 1, 5, 5, 2, 5, -1, 5);
        x.own(22, 3);
        x.own(23, 5);
        EDGES.is("seven HOURS", 7, x.dies(5));
        int[] then = {3, 3, 1, 1, 1, 2, 2, 12, 12};
        for (int h = 0; h < then.length; h++) {
            EDGES.is("HOUR " + h, then[h], x.hourIs(h, 0));
        }
        EDGES.is("HOUR 23", 3, x.hourIs(23, 0));
        BellHours y = new BellHours();
        for (int h = 0; h < 24; h++) {
            y.own(h, 5);
        }
        y.own(7, 6);
        EDGES.is("all but one", 23, y.dies(5));
        for (int h = 0; h < 24; h++) {
            EDGES.is("round the day, HOUR " + h, 6, y.hourIs(h, 0));
        }
        EDGES.is("all HOURS", 24, y.dies(6));
        for (int h = 0; h < 24; h++) {
            EDGES.is("to nobody, HOUR " + h, 12, y.hourIs(h, 0));
        }
        BellHours z = alternating(0, 1);
        EDGES.is("every second HOUR", 12, z.dies(0));
        EDGES.is("HOUR 0 to the OWNER of 23", 1, z.hourIs(0, 0));
        EDGES.is("all are 1's", 24, z.value(1, 3));
    }

    private static void dies() {
        EDGES.words("Terms", "its ACTS, SEARCHES fall");
        BellHours x = Edges.owned(11, 0);
        for (int i = 0; i < 5; i++) {
            x.act(11, 0, 0, 0);
            x.act(0, 0, 0, 0);
        }
        x.searches(11, 255);
        x.searches(0, 255);
        x.says(0, 1);
        EDGES.is("one HOUR", 1, x.dies(11));
        EDGES.is("its ACTS", 0, x.count(21));
        EDGES.is("not those of others", 5, x.count(10));
        x.own(0, 11);
        EDGES.is("its SEARCHES", 0, x.hidden(0, 1, 0, -1));
        EDGES.is("all of them", 0, x.hidden(0, 1, 0, 0));
        EDGES.is("not those of others", -2, x.hidden(1, 2, 0, -1));
        EDGES.is("the HOUR's WORD stays", 1, x.count(30));
        EDGES.words("Promise 26", "An OWNER DIES: how many HOURS it had; NONE: no such one.");
        EDGES.is("OWNER 12", -1, x.dies(12));
        EDGES.is("OWNER -1", -1, x.dies(-1));
        for (int far : FAR) {
            EDGES.is("OWNER " + far, -1, x.dies(far));
        }
        EDGES.is("without HOURS", 0, x.dies(5));
        x.act(5, 0, 0, 0);
        EDGES.is("without HOURS, with an ACT", 0, x.dies(5));
        EDGES.is("its ACT falls", 0, x.count(15));
        EDGES.is("the first OWNER", 1, x.dies(0));
        EDGES.is("to the one ahead", 11, x.hourIs(1, 0));
        EDGES.is("both", 2, x.dies(11));
        EDGES.is("once more", 0, x.dies(11));
        EDGES.is("none is left", 0, x.count(4));
    }

    private static void seed() {
        EDGES.words("Promise 27", "THE SEED (0 to 65535; X, too): true; false: no such number.");
        BellHours x = new BellHours();
        int[] good = {0, 1, 65534, 65535};
        for (int seed : good) {
            EDGES.yes("seed " + seed, x.seed(seed));
            EDGES.is("X, too", seed, x.count(3));
        }
        EDGES.no("-1", x.seed(-1));
        EDGES.no("65536", x.seed(65536));
        EDGES.no("the least", x.seed(Integer.MIN_VALUE));
        EDGES.no("the greatest", x.seed(Integer.MAX_VALUE));
        EDGES.is("X stays", 65535, x.count(3));
        EDGES.is("no HOUR is drawn", 0, x.count(4));
    }

    private static void drawn() {
        EDGES.words("Terms", "DRAWN: n times (1 to 40): X = (25173 X + 13849) modulo 65536 (X is THE SEED at first, "
            + "1): "
            + "HOUR X modulo 24 is OWNER X / 24 modulo 12's then.");
        int[] seeds = {0, 1, 2, 65535, 65534, 32768, 39022};
        for (int seed : seeds) {
            BellHours x = new BellHours();
            x.seed(seed);
            long is = seed;
            int[] owners = new int[24];
            java.util.Arrays.fill(owners, 12);
            for (int i = 0; i < 6; i++) {
                is = (25173 * is + 13849) % 65536;
                owners[(int) (is % 24)] = (int) (is / 24 % 12);
                x.draw(1);
                EDGES.is("X", is, x.count(3));
            }
            for (int h = 0; h < 24; h++) {
                EDGES.is("HOUR " + h, owners[h], x.hourIs(h, 0));
            }
        }
        BellHours once = new BellHours();
        once.draw(40);
        BellHours often = new BellHours();
        for (int i = 0; i < 40; i++) {
            often.draw(1);
        }
        for (int h = 0; h < 24; h++) {
            EDGES.is("40 at once, HOUR " + h, often.hourIs(h, 0), once.hourIs(h, 0));
        }
        EDGES.is("40 at once, X", often.count(3), once.count(3));
    }

    private static void draw() {
        EDGES.words("Promise 28", "DRAWN: how many HOURS have an OWNER then; NONE: no such n.");
        BellHours x = new BellHours();
        EDGES.is("0", -1, x.draw(0));
        EDGES.is("-1", -1, x.draw(-1));
        EDGES.is("41", -1, x.draw(41));
        for (int far : FAR) {
            EDGES.is("" + far, -1, x.draw(far));
        }
        EDGES.is("X stays", 1, x.count(3));
        EDGES.is("no HOUR is drawn", 0, x.count(4));
        EDGES.is("1", 1, x.draw(1));
        EDGES.is("HOUR 22", 5, x.hourIs(22, 0));
        x.seed(1);
        x.own(22, 11);
        EDGES.is("an HOUR that had an OWNER", 1, x.draw(1));
        EDGES.is("another one's then", 5, x.hourIs(22, 0));
        EDGES.is("40", x.draw(40), x.count(4));
        for (int h = 0; h < 24; h++) {
            x.own(h, 0);
        }
        EDGES.is("full", 24, x.draw(40));
        EDGES.is("no such HOUR", NO, x.hourIs(24, 0));
    }
}

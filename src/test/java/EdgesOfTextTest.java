/** Edges that the Terms name of a LAW's TEXT, of its FAULTS and of what its signs come to. */
public final class EdgesOfTextTest {
    private static final Edges EDGES = new Edges("EdgesOfTextTest");
    private static final String TEXT = "w12+[a](k<3&!(a=4)|1=1);n(1=1)";
    private static final int FIRST_CLAUSE = 23;

    public static void main(String[] args) {
        twoLaws();
        howLong();
        noBlanks();
        clauses();
        notDone();
        moreByAnAct();
        worths();
        fines();
        cooling();
        firstThatHolds();
        parts();
        pieces();
        sums();
        digits();
        letters();
        hourAhead();
        bits();
        refused();
        askedFromTheLeft();
        firstFault();
        cantStand();
        theEnd();
        sixthDigit();
        fifteenthClause();
        seventhOpen();
        depths();
        EDGES.end();
    }

    private static int read(String text) {
        return Due.law(new BellHours(), 0, text);
    }

    /** Worth of one ACT (kind 3, amount 7, room 2) of OWNER 4 in HOUR 5, HOUR 4 being OWNER 9's. */
    private static int worth(String text) {
        BellHours x = new BellHours();
        x.own(5, 4);
        x.own(4, 9);
        x.room(2, 11, 22, 33);
        x.act(4, 3, 2, 7);
        int read = Due.law(x, 0, text);
        return read > 0 ? x.hourIs(5, 1) : read;
    }

    private static int number(String e) {
        return worth("w" + e + "(1=1)");
    }

    private static void holds(int want, String c) {
        EDGES.is(c, want, worth("w1(" + c + ")"));
    }

    private static BellHours oneAct() {
        BellHours x = Edges.owned(0);
        x.act(0, 0, 0, 0);
        return x;
    }

    private static void twoLaws() {
        EDGES.words("Terms", "A LAW (two of them, 0 and 1; runs go by LAW 0 but where it is told)");
        BellHours x = oneAct();
        EDGES.is("LAW 1", 6, Due.law(x, 1, "w9(1=1);n(1=1);s9(1=1);d9(1=1);h9(1=1);f9(1=1)"));
        EDGES.is("no worth by LAW 1", 0, x.hourIs(0, 1));
        EDGES.is("no FINE by LAW 1", 0, x.hourIs(0, 2));
        EDGES.is("all done though LAW 1 says n", 0, x.hourIs(0, 3));
        EDGES.is("no STORE by LAW 1", 0, x.found(1, 0, 0));
        EDGES.is("LAW 0", 1, Due.law(x, 0, "w7(1=1)"));
        EDGES.is("a worth by LAW 0", 7, x.hourIs(0, 1));
        Due.law(x, 1, "c99(1=1)");
        x.room(0, 0, 0, 50);
        EDGES.is("no cooling by LAW 1", 50, x.found(24, 0, 2));
        EDGES.is("LAW 0 stays", 7, x.hourIs(0, 1));
        Due.text(x, "n(1=1)");
        EDGES.is("no LAW 2", -1, x.law(2, 6));
        EDGES.is("no LAW -1", -1, x.law(-1, 6));
    }

    private static void howLong() {
        EDGES.words("Terms", "a TEXT of at most 200 bytes");
        String longest = "w11" + "+1".repeat(96) + "(1=1)";
        EDGES.is("its length", 200, longest.length());
        EDGES.is("200 bytes", 1, read(longest));
        EDGES.is("what they come to", 11 + 96, worth(longest));
        EDGES.is("201 bytes", -1, read("1".repeat(201)));
        EDGES.is("200 bytes and a fault behind the last", -1200, read("w11" + "+1".repeat(97) + "(1="));
        EDGES.is("the last byte can't stand", -1199, read(longest.substring(0, 199) + "]"));
        String manyMinus = "w999" + "-1".repeat(95) + "(1=1)";
        EDGES.is("199 bytes", 999 - 95, worth(manyMinus));
        String ands = "w1(1=1" + "&2=2".repeat(48) + ")";
        EDGES.is("49 PIECES in 199 bytes", 199, ands.length());
        EDGES.is("all hold", 1, worth(ands));
        EDGES.is("the last does not", 0, worth(ands.substring(0, 197) + "3)"));
        String ors = "w1(1=2" + "|2=1".repeat(48) + ")";
        EDGES.is("none of 49 PARTS holds", 0, worth(ors));
        EDGES.is("the last does", 1, worth(ors.substring(0, 197) + "2)"));
    }

    private static void noBlanks() {
        EDGES.words("Terms", "no blanks (none at first)");
        int[] blanks = {' ', '\t', '\n', '\r', 0, 127, 160, 255};
        for (int blank : blanks) {
            for (int i = 0; i <= TEXT.length(); i++) {
                String text = TEXT.substring(0, i) + (char) blank + TEXT.substring(i);
                EDGES.is(blank + " at " + i, -1000 - i, read(text));
            }
        }
        EDGES.is("one blank alone", -1000, read(" "));
        BellHours x = oneAct();
        x.room(0, 1, 2, 3);
        EDGES.is("no CLAUSES of LAW 0", 0, x.count(0));
        EDGES.is("no CLAUSES of LAW 1", 0, x.count(1));
        EDGES.is("without a LAW an ACT is done", 0, x.hourIs(0, 3));
        EDGES.is("it is worth nothing", 0, x.value(0, 0));
        EDGES.is("it changes no STORE", 1, x.found(24, 0, 0));
        EDGES.is("nor DIRT", 2, x.found(24, 0, 1));
        EDGES.is("nothing cools", 3, x.found(24, 0, 2));
    }

    private static void clauses() {
        EDGES.words("Terms", "CLAUSES (14 at most) with a ; (59) between two");
        String clause = "n(1=1)";
        for (int n = 1; n <= 14; n++) {
            EDGES.is(n + " CLAUSES", n, read(clause + (";" + clause).repeat(n - 1)));
        }
        EDGES.is("the 14th counts", 6, worth("w5(1=2);".repeat(13) + "w6(1=1)"));
        EDGES.is("15 CLAUSES", -4098, read(clause + (";" + clause).repeat(14)));
        EDGES.is("none between two", -1006, read(clause + clause));
        EDGES.is("one ahead of the first", -1000, read(";" + clause));
        EDGES.is("one behind the last", -1007, read(clause + ";"));
        EDGES.is("two between two", -1007, read(clause + ";;" + clause));
        EDGES.is("byte 58", -1006, read(clause + (char) 58 + clause));
        EDGES.is("byte 59", 2, read(clause + (char) 59 + clause));
        EDGES.is("byte 60", -1006, read(clause + (char) 60 + clause));
    }

    private static void notDone() {
        EDGES.words("Terms", "an ACT for which it holds is not done (any n will do)");
        EDGES.is("no n holds", 9, worth("n(1=2);w9(1=1);n(1=3)"));
        EDGES.is("the first", 0, worth("n(k=3);w9(1=1);n(1=3)"));
        EDGES.is("the last", 0, worth("n(1=2);w9(1=1);n(k=3)"));
        EDGES.is("one between", 0, worth("n(1=2);n(1=1);w9(1=1);n(k=4)"));
        EDGES.is("behind one that is REFUSED", 0, worth("n(1/0=0);w9(1=1);n(k=3)"));
        BellHours x = Edges.owned(0);
        x.act(0, 0, 0, 0);
        x.act(0, 1, 0, 0);
        x.room(0, 50, 50, 50);
        Due.law(x, 0, "n(k=0);s0-k-1(1=1);d0-k-1(1=1);h0-k-1(1=1)");
        EDGES.is("it changes no STORE", 48, x.found(1, 0, 0));
        EDGES.is("it changes no DIRT", 48, x.found(1, 0, 1));
        EDGES.is("it changes no HEAT", 48, x.found(1, 0, 2));
    }

    /** What HOUR 1 finds by an ACT of HOUR 0 in ROOM 0, which has so much of all three at first. */
    private static int behindAct(int at, int letter, String e) {
        BellHours x = oneAct();
        x.room(0, at, at, at);
        Due.law(x, 0, "sdh".charAt(letter) + e + "(1=1)");
        return x.found(1, 0, letter);
    }

    private static void moreByAnAct() {
        EDGES.words("Terms", "by how much STORE, DIRT, HEAT of the ROOM is more by an ACT (-99 to 99)");
        String[] es = {"98", "99", "100", "99999", "99999*99999", "0", "0-1"};
        int[] from0 = {98, 99, 99, 99, 99, 0, 0};
        String[] less = {"0-98", "0-99", "0-100", "0-99999", "50000*50000", "0", "1"};
        int[] from99 = {1, 0, 0, 0, 0, 99, 99};
        for (int letter = 0; letter < 3; letter++) {
            for (int i = 0; i < es.length; i++) {
                EDGES.is("sdh".charAt(letter) + es[i] + " from 0", from0[i], behindAct(0, letter, es[i]));
                EDGES.is("sdh".charAt(letter) + less[i] + " from 99", from99[i], behindAct(99, letter, less[i]));
            }
        }
    }

    private static void worths() {
        EDGES.words("Terms", "what it is worth (0 to 999)");
        String[] es = {"0", "1", "998", "999", "1000", "99999", "0-1", "0-99999", "50000*50000"};
        int[] are = {0, 1, 998, 999, 999, 999, 0, 0, 0};
        for (int i = 0; i < es.length; i++) {
            EDGES.is("w" + es[i], are[i], number(es[i]));
        }
        BellHours x = Edges.owned(0);
        Due.law(x, 0, "w1000(1=1)");
        for (int i = 0; i < 5; i++) {
            x.act(0, 0, 0, 0);
        }
        EDGES.is("each ACT for itself", 5 * 999, x.hourIs(0, 1));
    }

    private static void fines() {
        EDGES.words("Terms", "the FINE for a ROOM at the end of an HOUR (0 to 999)");
        String[] es = {"0", "1", "998", "999", "1000", "99999", "0-1", "0-99999"};
        int[] are = {0, 1, 998, 999, 999, 999, 0, 0};
        for (int i = 0; i < es.length; i++) {
            BellHours x = Edges.owned(0);
            Due.law(x, 0, "f" + es[i] + "(1=1)");
            EDGES.is("f" + es[i] + " of eight ROOMS", 8 * are[i], x.hourIs(0, 2));
            Due.law(x, 0, "f" + es[i] + "(r=7)");
            EDGES.is("f" + es[i] + " of one", are[i], x.hourIs(0, 2));
        }
    }

    private static void cooling() {
        EDGES.words("Terms", "by how much a ROOM is less hot at the end of an HOUR (0 to 99)");
        String[] es = {"0", "1", "98", "99", "100", "99999", "0-1", "0-99999"};
        int[] less = {0, 1, 98, 99, 99, 99, 0, 0};
        for (int i = 0; i < es.length; i++) {
            BellHours x = new BellHours();
            x.room(7, 99, 99, 99);
            x.room(0, 0, 0, 40);
            Due.law(x, 0, "c" + es[i] + "(t=0)");
            EDGES.is("c" + es[i] + " from 99", 99 - less[i], x.found(1, 7, 2));
            EDGES.is("c" + es[i] + " from 40", Math.max(0, 40 - less[i]), x.found(1, 0, 2));
            EDGES.is("no less STORE", 99, x.found(1, 7, 0));
            EDGES.is("no less DIRT", 99, x.found(1, 7, 1));
        }
    }

    private static void firstThatHolds() {
        EDGES.words("Terms", "of each the E of the first CLAUSE whose C holds (beyond its bounds the bound; none: 0)");
        EDGES.is("the first of three", 1, worth("w1(1=1);w2(1=1);w3(1=1)"));
        EDGES.is("the last of three", 3, worth("w1(1=2);w2(1=2);w3(1=1)"));
        EDGES.is("none of three", 0, worth("w1(1=2);w2(1=2);w3(1=2)"));
        EDGES.is("no CLAUSE of that letter", 0, worth("s1(1=1)"));
        EDGES.is("a bound of the first, not the second", 999, worth("w1000(1=1);w5(1=1)"));
        EDGES.is("the lower bound of the first", 0, worth("w0-5(1=1);w5(1=1)"));
        BellHours x = Edges.owned(0);
        x.act(0, 0, 0, 0);
        Due.law(x, 0, "h1(1=1);f2(1=1);c3(1=2);s4(1=1);d5(1=1);s6(1=1);w7(1=1);d8(1=1)");
        int[] finds = {4, 5, 1};
        for (int what = 0; what < 3; what++) {
            EDGES.is("the first of its letter, " + what, finds[what], x.found(1, 0, what));
        }
        EDGES.is("the first f", 16, x.hourIs(0, 2));
        EDGES.is("the first w", 7, x.hourIs(0, 1));
    }

    private static void parts() {
        EDGES.words("Terms", "PARTS with a | between two, one of which must hold");
        for (int bits = 0; bits < 8; bits++) {
            String c = "1=" + (bits & 1) + "|1=" + (bits >> 1 & 1) + "|1=" + (bits >> 2);
            holds(bits == 0 ? 0 : 1, c);
        }
        EDGES.words("Terms", "a PART: PIECES with an & between two, all of which must");
        for (int bits = 0; bits < 8; bits++) {
            String c = "1=" + (bits & 1) + "&1=" + (bits >> 1 & 1) + "&1=" + (bits >> 2);
            holds(bits == 7 ? 1 : 0, c);
        }
        holds(1, "1=1|1=1&1=2");
        holds(1, "1=2&1=1|1=1");
        holds(0, "(1=1|1=1)&1=2");
        holds(0, "1=2&(1=1|1=1)");
    }

    private static void pieces() {
        EDGES.words("Terms", "a PIECE: !PIECE, (C), or E, one of < > =, and E");
        String[] signs = {"<", ">", "="};
        for (int a = 4; a <= 6; a++) {
            int[] want = {a < 5 ? 1 : 0, a > 5 ? 1 : 0, a == 5 ? 1 : 0};
            for (int i = 0; i < 3; i++) {
                String c = a + signs[i] + "5";
                holds(want[i], c);
                holds(want[i], "(" + c + ")");
                holds(1 - want[i], "!" + c);
                holds(want[i], "!!" + c);
                holds(1 - want[i], "!(" + c + ")");
                holds(want[i], "!!!!" + c);
            }
        }
        holds(1, "0-1<0");
        holds(1, "0>0-1");
        holds(0, "0-1=1");
        holds(1, "!1=2&!2=1");
        holds(0, "!1=2&1=2");
        holds(1, "!1=1|1=1");
    }

    private static void sums() {
        EDGES.words("Terms", "E: TERMS with + or - between two; a TERM: FACTORS with one of * / % between two; from "
            + "the left on");
        String[] es = {"9-4-3", "9-[4-3]", "9-4+3", "2+3*4", "[2+3]*4", "20/2/5", "20/[10/5]", "7%4*2", "7*4%5", "20%7%4",
            "9/2*2", "2*9/2", "1+9%5-2", "[[3]]", "7/2", "10+[0-7]/2", "10+[0-7]%4", "10+7%[0-4]", "10+7/[0-2]",
            "7/1", "7%1", "10+[0-7]/1", "7*1", "7*0", "0/7", "0%7", "6%7", "6/7"};
        int[] are = {2, 8, 8, 14, 20, 2, 10, 6, 3, 2, 8, 9, 3, 3, 3, 7, 7, 13, 7,
            7, 0, 3, 7, 0, 0, 0, 6, 0};
        for (int i = 0; i < es.length; i++) {
            EDGES.is(es[i], are[i], number(es[i]));
        }
    }

    private static void digits() {
        EDGES.words("Terms", "a number of one to five digits");
        String[] numbers = {"0", "9", "00", "00009", "00999", "0010"};
        int[] are = {0, 9, 0, 9, 999, 10};
        for (int i = 0; i < numbers.length; i++) {
            EDGES.is(numbers[i], are[i], number(numbers[i]));
        }
        holds(1, "99999=9*11111");
        holds(1, "12345=[[[1*10+2]*10+3]*10+4]*10+5");
        holds(1, "90000>89999&10000>9999&99999>99998");
        EDGES.is("no digit", -1001, read("w(1=1)"));
        EDGES.is("six digits", -2006, read("w000001(1=1)"));
        EDGES.is("byte 47 is no digit", -1001, read("w" + (char) 47 + "(1=1)"));
        EDGES.is("byte 58 is no digit", -1001, read("w" + (char) 58 + "(1=1)"));
    }

    private static void letters() {
        EDGES.words("Terms", "k the KIND, a the AMOUNT (both 0 in f c), r the ROOM, s d h its STORE, DIRT, HEAT, t "
            + "the HOUR, o the OWNER");
        String letters = "karsdhto";
        int[][] ends = {{0, 0, 0, 0, 0, 0, 0, 0}, {6, 99, 7, 99, 99, 99, 23, 11}};
        for (int[] are : ends) {
            BellHours x = new BellHours();
            x.own(are[6], are[7]);
            x.room(are[2], are[3], are[4], are[5]);
            x.act(are[7], are[0], are[2], are[1]);
            for (int i = 0; i < letters.length(); i++) {
                Due.law(x, 0, "w" + letters.charAt(i) + "(1=1)");
                EDGES.is(letters.substring(i, i + 1), are[i], x.hourIs(are[6], 1));
            }
        }
        BellHours x = Edges.owned(5);
        x.act(5, 6, 7, 99);
        x.room(7, 1, 2, 70);
        Due.law(x, 0, "fk+a(1=1);ck+a(1=1)");
        EDGES.is("both 0 in f", 0, x.hourIs(0, 2));
        EDGES.is("both 0 in c", 70, x.found(24, 7, 2));
        Due.law(x, 0, "f1000*t+100*o+10*s+d(r=7)");
        EDGES.is("in f", 500 + 10 + 2, x.hourIs(0, 2));
        Due.law(x, 0, "cr+h%7+o+t(t<2)");
        EDGES.is("in c of an owned HOUR", 70 - 7 - 0 - 5, x.found(1, 7, 2));
        EDGES.is("in c of nobody's HOUR", 58 - 7 - 58 % 7 - 12 - 1, x.found(2, 7, 2));
    }

    private static void hourAhead() {
        EDGES.words("Terms", "p that of the HOUR ahead (of HOUR 0: of 23; nobody: 12; o, too)");
        BellHours x = new BellHours();
        x.own(0, 3);
        x.own(1, 4);
        x.own(3, 11);
        for (int o = 3; o < 12; o++) {
            x.act(o, 0, 0, 0);
        }
        Due.law(x, 0, "wp+1(1=1)");
        EDGES.is("of HOUR 0 if 23 is nobody's", 13, x.hourIs(0, 1));
        EDGES.is("of HOUR 1", 4, x.hourIs(1, 1));
        EDGES.is("of HOUR 3 behind nobody's", 13, x.hourIs(3, 1));
        x.own(23, 9);
        EDGES.is("of HOUR 0: of 23", 10, x.hourIs(0, 1));
        EDGES.is("of HOUR 23 behind nobody's", 13, x.hourIs(23, 1));
        x.own(22, 11);
        EDGES.is("of HOUR 23", 12, x.hourIs(23, 1));
        Due.law(x, 0, "fp(r=0)");
        EDGES.is("in f", 9, x.hourIs(0, 2));
        x.room(0, 0, 0, 99);
        Due.law(x, 0, "co(t=2)");
        EDGES.is("o of nobody's HOUR", 99 - 12, x.found(3, 0, 2));
        Due.law(x, 0, "cp(t=2)");
        EDGES.is("p in nobody's HOUR", 99 - 4, x.found(3, 0, 2));
        Due.law(x, 0, "cp(t=5)");
        EDGES.is("p of nobody's HOUR in nobody's", 99 - 12, x.found(6, 0, 2));
    }

    private static void bits() {
        EDGES.words("Terms", "All is reckoned with 32 bits, as the machine does");
        String most = "[32767*65536+65535]";
        String least = "[32768*65536]";
        holds(1, most + ">0&" + least + "<0");
        holds(1, most + "+1=" + least);
        holds(1, least + "-1=" + most);
        holds(1, "0-" + least + "=" + least);
        holds(1, least + "*[0-1]=" + least);
        holds(1, least + "/[0-1]=" + least);
        holds(1, least + "%[0-1]=0");
        holds(1, "65536*65536=0");
        holds(1, "99999*99999=21512*65536+54977");
        holds(1, "46341*46341<0&46340*46340>0");
        holds(1, least + "<" + most);
    }

    private static void refused() {
        EDGES.words("Terms", "what is divided by 0 is REFUSED: then a C does not hold, an E is 0");
        String[] es = {"1/0", "1%0", "0/0", "0%0", "7+1/0", "1/0+7", "7*[1%0]", "[1/0]", "7-[k-3]*[1/[k-3]]", "1/[a-7]"};
        for (String e : es) {
            EDGES.is(e, 0, number(e));
            holds(0, e + "=0");
            holds(0, "0=" + e);
            holds(0, "!" + e + "=0");
            holds(0, "!(" + e + "=0)");
            holds(0, "!!" + e + "<0");
            holds(0, "1=1&" + e + "=0");
            holds(0, "1=2|" + e + "=0");
            holds(0, e + "=0|1=1");
            holds(0, "!(1=1&" + e + "=0)");
        }
        EDGES.is("0 / 1 is not", 5, number("5+0/1"));
        EDGES.is("0 % 1 is not", 5, number("5+0%1"));
        EDGES.is("a refused C: the next CLAUSE", 4, worth("w3(1/0=0);w4(1=1)"));
        EDGES.is("a refused E: 0, not the next CLAUSE", 0, worth("w3/0(1=1);w4(1=1)"));
        EDGES.is("a refused E whose C does not hold", 4, worth("w3/0(1=2);w4(1=1)"));
        EDGES.is("an n that is refused", 6, worth("n(1/0=0);w6(1=1)"));
        BellHours x = Edges.owned(0);
        x.act(0, 0, 0, 0);
        x.room(0, 5, 6, 7);
        Due.law(x, 0, "s9/s*0+9/[s-5](1=1);d9%[d-6](1=1);h9/[h-7](1=1);f9/t(1=1);c9%t(t=0)");
        EDGES.is("s is 0", 5, x.found(1, 0, 0));
        EDGES.is("d is 0", 6, x.found(1, 0, 1));
        EDGES.is("h and c are 0", 7, x.found(1, 0, 2));
        EDGES.is("f is 0", 0, x.hourIs(0, 2));
    }

    private static void askedFromTheLeft() {
        EDGES.words("Terms", "Of a C as much is asked, from the left, as matters");
        holds(1, "1=1|1/0=0");
        holds(1, "1=1|1=2&1/0=0|1%0=0");
        holds(1, "1=2&1/0=0|1=1");
        holds(1, "!(1=2&1/0=0)");
        holds(1, "!(1=2&1=1&1/0=0)");
        holds(1, "1=1&(1=1|1/0=0)&1=1");
        holds(1, "(1=2|1=1|1/0=0)&!(1=2&1/0=0)");
        holds(1, "1=2&(1/0=0|1=1)|1=1");
        holds(1, "1=2&!(1/0=0|1=1)|1=1");
        holds(0, "1=2&1/0=0");
        holds(0, "1/0=0|1=1");
        holds(0, "1/0=0&1=2|1=1");
        holds(0, "1=1&1/0=0|1=1");
        holds(0, "1=2|1/0=0|1=1");
    }

    private static void firstFault() {
        EDGES.words("Terms", "FAULTS, the first from the left");
        EDGES.is("2, then 1", -2006, read("w123456x"));
        EDGES.is("1, then 2", -1001, read("wx123456(1=1)"));
        EDGES.is("5, then 1", -5007, read("n((((((("));
        EDGES.is("1, then 5", -1002, read("n(x((((((("));
        EDGES.is("5, then 2", -5007, read("n(((((((123456=1"));
        EDGES.is("2, then 5", -2007, read("n(123456=[[[[[[[1"));
        EDGES.is("1, then 4", -1000, read("x(1=1)" + ";n(1=1)".repeat(14)));
        EDGES.is("4, then 1", -4098, read("n(1=1)" + ";n(1=1)".repeat(13) + ";nx"));
        EDGES.is("two of 1", -1001, read("n1x"));
    }

    private static void cantStand() {
        EDGES.words("Terms", "1 what can't stand there (the end, too)");
        String[] texts = {"x(1=1)", "N(1=1)", "k(1=1)", "7(1=1)", "(1=1)", "n1(1=1)", "n!(1=1)", "n[1](1=1)", "n)", "s(1=1)",
            "s-1(1=1)", "s+1(1=1)", "s!1(1=1)", "s1)1=1)", "s1;", "s1&1(1=1)", "s1=1(1=1)", "sk1(1=1)", "s1k(1=1)", "s[](1=1)",
            "s[1)(1=1)", "s[1(1=1)", "s1](1=1)", "n()", "n(1)", "n(k)", "n(1=)", "n(=1)", "n(1==1)", "n(1<=1)", "n(1=1=1)",
            "n(1=1<1)", "n(&1=1)", "n(1=1&)", "n(1=1&&1=1)", "n(1=1||1=1)", "n(1=1|&1=1)", "n(!)", "n(!&1=1)", "n(1!=1)",
            "n(1=!1)", "n(1=1!)", "n(1+(1)=1)", "n((1)=1)", "n([1])", "n([1=1])", "n([1&1]=1)", "n((1=1)=1)", "n((1=1)+1=1)",
            "n((1=1)(1=1))", "n(1=1]", "n(1=1))", "n(1=1)&", "n(1=1),n(1=1)", "n(1=1);k(1=1)", "w1.5(1=1)", "w1*(1=1)",
            "w1*/1(1=1)", "w1--1(1=1)", "n(o=p)q", "n(w=1)", "n(f=1)", "n(c=1)", "n(n=1)"};
        int[] places = {0, 0, 0, 0, 0, 1, 1, 1, 1, 1,
            1, 1, 1, 2, 2, 2, 2, 2, 2, 2,
            3, 3, 2, 2, 3, 3, 4, 2, 4, 4, 5,
            5, 2, 6, 6, 6, 6, 3, 3, 3,
            4, 5, 4, 4, 5, 4, 4, 7, 7,
            7, 5, 6, 6, 6, 7, 2, 3,
            3, 3, 6, 2, 2, 2, 2};
        EDGES.is("as many places as texts", texts.length, places.length);
        for (int i = 0; i < texts.length; i++) {
            EDGES.is(texts[i], -1000 - places[i], read(texts[i]));
        }
    }

    private static void theEnd() {
        EDGES.words("Terms", "what can't stand there (the end, too)");
        for (int n = 1; n <= TEXT.length(); n++) {
            boolean whole = n == FIRST_CLAUSE || n == TEXT.length();
            int clauses = n == FIRST_CLAUSE ? 1 : 2;
            EDGES.is(TEXT.substring(0, n), whole ? clauses : -1000 - n, read(TEXT.substring(0, n)));
        }
        for (int n = 1; n <= TEXT.length(); n++) {
            BellHours x = new BellHours();
            Due.text(x, TEXT);
            boolean whole = n == FIRST_CLAUSE || n == TEXT.length();
            int clauses = n == FIRST_CLAUSE ? 1 : 2;
            EDGES.is(n + " bytes, more behind them", whole ? clauses : -1000 - n, x.law(0, n));
        }
    }

    private static void sixthDigit() {
        EDGES.words("Terms", "2 a sixth digit, at it");
        EDGES.is("in an E", -2006, read("w123456(1=1)"));
        EDGES.is("six zeros", -2006, read("w000000(1=1)"));
        EDGES.is("five and an end", -1006, read("w12345"));
        EDGES.is("six and an end", -2006, read("w123456"));
        EDGES.is("of a second number", -2012, read("w12345+123456(1=1)"));
        EDGES.is("in brackets", -2007, read("w[123456](1=1)"));
        EDGES.is("on the left of a C", -2007, read("n(123456=1)"));
        EDGES.is("on the right of a C", -2009, read("n(1=999999)"));
        EDGES.is("of twenty", -2006, read("w" + "9".repeat(20) + "(1=1)"));
        EDGES.is("five and five", 1, read("w12345+12345(12345=12345)"));
        EDGES.is("of a second CLAUSE", -2013, read("n(1=1);w123456(1=1)"));
    }

    private static void fifteenthClause() {
        EDGES.words("Terms", "4 a 15th CLAUSE, at its letter (if that can stand there)");
        String fourteen = "n(1=1)" + ";n(1=1)".repeat(13);
        for (char letter : "nsdhwfc".toCharArray()) {
            EDGES.is("the letter " + letter, -4098, read(fourteen + ";" + letter));
        }
        for (char letter : "karptoNxz1(;! ".toCharArray()) {
            EDGES.is("the sign " + letter, -1098, read(fourteen + ";" + letter + "(1=1)"));
        }
        EDGES.is("the end in its place", -1098, read(fourteen + ";"));
        EDGES.is("a fault in it is not reached", -4098, read(fourteen + ";n(123456=1)"));
        EDGES.is("a fault in the 14th", -1096, read(fourteen.substring(0, 96) + ";" + ";n(1=1)"));
    }

    private static void seventhOpen() {
        EDGES.words("Terms", "5 a seventh of ( [ ! that are open in one another, at it (the ( of the CLAUSE counts; a "
            + "! is open "
            + "till its PIECE ends; the E of a CLAUSE stands ahead of it)");
        EDGES.is("six (", 1, read("n((((((1=1))))))"));
        EDGES.is("seven (", -5007, read("n(((((((1=1)))))))"));
        EDGES.is("a ( and five [ in a C", 1, read("n([[[[[1]]]]]=1)"));
        EDGES.is("a ( and six [ in a C", -5007, read("n([[[[[[1]]]]]]=1)"));
        EDGES.is("a ( and five !", 1, read("n(!!!!!1=1)"));
        EDGES.is("a ( and six !", -5007, read("n(!!!!!!1=1)"));
        EDGES.is("the ( behind five !", -5007, read("n(!!!!!(1=1))"));
        EDGES.is("the [ behind five !", -5007, read("n(!!!!![1]=1)"));
        EDGES.is("the [ on the right of a PIECE behind five !", -5009, read("n(!!!!!1=[1])"));
        EDGES.is("the ! has ended", 1, read("n(!!!!!1=1&[[[[[1]]]]]=1)"));
        EDGES.is("the ! has ended with brackets", 1, read("n(!!!!(1=1)|!!!!!1=1)"));
        EDGES.is("all have ended by the next CLAUSE", 1 + 1, read("n((((((1=1))))));n((((((1=1))))))"));
        EDGES.is("six [ in an E ahead of six (", 1, read("w[[[[[[1]]]]]]((((((1=1))))))"));
        EDGES.is("seven [ in an E", -5007, read("w[[[[[[[1]]]]]]](1=1)"));
        EDGES.is("six [ beside six [", 1, read("w[[[[[[1]]]]]]+[[[[[[1]]]]]](1=1)"));
        EDGES.is("a seventh that can't stand there", -1008, read("n((((((1(=1"));
        EDGES.is("a seventh [ that can't stand there", -1008, read("n((((((1[=1"));
        EDGES.is("a seventh ! that can't stand there", -1008, read("n((((((1!=1"));
        EDGES.is("an eighth is not reached", -5007, read("n(((((((([1"));
    }

    private static void depths() {
        EDGES.words("Terms", "a FACTOR: [E]");
        EDGES.is("six open, two numbers wait in each", 1 + 2 * (3 + 4 * (5 + 6 * (7 + 1 * 2))),
            number("1+2*[3+4*[5+6*[7+1*[2+0*[0+9*[9]]]]]]"));
        holds(1, "1+2*[3+4*[5+6*[7+1*[2+0*9]]]]=1+2*[3+4*[5+6*[7+1*[2+0*9]]]]");
        holds(1, "1=1&(1=1&(1=1&(1=1&(1=1&(1+2*3=7)))))");
        holds(0, "1=1&(1=1&(1=1&(1=1&(1=1&(1+2*3=8)))))");
        holds(1, "1=2|(1=2|(1=2|(1=2|(1=2|(1+2*3=7)))))");
        holds(1, "!(!(!1=1|1=1)&1=1)");
        holds(0, "!(!(!1=1|1=2)&1=1)");
    }
}

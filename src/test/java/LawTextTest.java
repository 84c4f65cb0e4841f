/** Promises 4 and 5: the tape, the TEXT of a LAW, its FAULTS, and what its signs come to. */
public final class LawTextTest {
    private static final Due DUE = new Due("LawTextTest");

    public static void main(String[] args) {
        tape();
        whichCallsAreRefused();
        goodTexts();
        cantStand();
        otherFaults();
        firstFaultFromTheLeft();
        textBeforeStays();
        numbers();
        conditions();
        refused();
        bounds();
        firstClauseThatHolds();
        DUE.end();
    }

    private static void tape() {
        BellHours x = new BellHours();
        DUE.is("an empty tape", 0, x.count(2));
        for (int i = 1; i <= 11; i++) {
            DUE.is("feed " + i, 20 * i, x.feed(-1, 0, 1, Integer.MIN_VALUE, Integer.MAX_VALUE));
        }
        DUE.is("feed beyond 220", -1, x.feed(1, 2, 3, 4, 5));
        DUE.is("the tape stays", 220, x.count(2));
        DUE.is("a byte 255 can't stand", -1000, x.law(0, 200));
        DUE.is("empty behind a fault", 0, x.count(2));
        x.feed(('w' << 24) + ('1' << 16) + ('(' << 8) + '2', ('<' << 24) + ('3' << 16) + (')' << 8), 0, 0, 0);
        DUE.is("the highest byte first", 1, x.law(0, 7));
        DUE.is("all of it is empty", 0, x.count(2));
    }

    private static void whichCallsAreRefused() {
        BellHours x = new BellHours();
        Due.text(x, "n(1=1)");
        DUE.is("law -1", -1, x.law(-1, 6));
        DUE.is("law 2", -1, x.law(2, 6));
        DUE.is("0 bytes", -1, x.law(0, 0));
        DUE.is("-1 bytes", -1, x.law(0, -1));
        DUE.is("it has not so many", -1, x.law(0, 21));
        DUE.is("the tape stays", 20, x.count(2));
        DUE.is("all of the tape", -1006, x.law(0, 20));
        for (int i = 0; i < 11; i++) {
            x.feed(0, 0, 0, 0, 0);
        }
        DUE.is("201 bytes", -1, x.law(1, 201));
        DUE.is("the tape stays", 220, x.count(2));
        DUE.is("200 bytes", -1000, x.law(1, 200));
    }

    private static void goodTexts() {
        good("n(1=1)", 1);
        good("n(1=1);s1(1=1);d1(1=1);h1(1=1);w1(1=1);f1(1=1);c1(1=1)", 7);
        good("s99999(00000<99999)", 1);
        good("sk+a+r+s+d+h+t+o+p(k=a&r=s|d=h&t=o&!p=p)", 1);
        good("wk-1*2/3%4+[a-[r]](!(k=1)&((k>1)|!!k<2))", 1);
        good("n((((([1]=1)))))", 1);
        good("n(!!!!!1=1)", 1);
        good("n(!!!!!1=1&!!!!!1=1)", 1);
        good("n(!!!!!1=1|(((((1=1))))))", 1);
        good("n([[[[[1]]]]]=[[[[[1]]]]]+[1])", 1);
        good("w[[[[[[1]]]]]](!!!!!1=1)", 1);
        good("n(1=1)" + ";n(1=1)".repeat(13), 14);
        String longest = "w1" + "+1".repeat(96) + "(1=1)";
        DUE.is("its length", 199, longest.length());
        good(longest, 1);
        good("w11" + longest.substring(2), 1);
    }

    private static void good(String text, int clauses) {
        BellHours x = new BellHours();
        DUE.is(text, clauses, Due.law(x, 0, text));
        DUE.is("clauses of " + text, clauses, x.count(0));
    }

    private static int fault(String text) {
        return Due.law(new BellHours(), 0, text);
    }

    private static void cantStand() {
        int[] places = {0, 0, 0, 0, 1, 1, 1, 1, 2, 2, 2, 2, 3, 3, 2, 4, 5, 5, 5, 5, 6, 6, 6, 7, 7};
        String[] texts = {
            "x(1=1)", "1(1=1)", "(1=1)", "k1(1=1)", "n1(1=1)", "n[1](1=1)", "s(1=1)", "n", "n()", "n(", "w1", "w1)",
            "n(1)", "n(1", "w1 (1=1)", "n(1=)", "n(1=1", "n(1=1]", "n(1=1<1)", "n(1=1=1)", "n(1=1))", "n(1=1)n(1=1)",
            "n(1=1)&", "n(1=1);", "n(1=1);;"};
        for (int i = 0; i < texts.length; i++) {
            DUE.is(texts[i], -1000 - places[i], fault(texts[i]));
        }
        DUE.is("a minus ahead", -1001, fault("s-1(1=1)"));
        DUE.is("a round bracket in an E", -1004, fault("n(1+(1)=1)"));
        DUE.is("a square one as a PIECE", -1005, fault("n([1])"));
        DUE.is("an & in an E", -1004, fault("n([1&1]=1)"));
        DUE.is("a < in square brackets", -1004, fault("n([1<1]=1)"));
        DUE.is("two letters", -1003, fault("n(kk=1)"));
        DUE.is("a number behind a letter", -1003, fault("n(k1=1)"));
        DUE.is("a letter behind a number", -1003, fault("n(1k=1)"));
        DUE.is("a great letter", -1002, fault("n(K=1)"));
        DUE.is("a letter of a CLAUSE alone", -1002, fault("n(w=1)"));
        DUE.is("a ! in an E", -1004, fault("n(1=!1)"));
        DUE.is("a ! behind a PIECE", -1005, fault("n(1=1!)"));
        DUE.is("a ! ahead of nothing", -1003, fault("n(!)"));
        DUE.is("a | ahead", -1002, fault("n(|1=1)"));
        DUE.is("a | at the end", -1006, fault("n(1=1|)"));
        DUE.is("the end in a number", -1007, fault("w1(1=12"));
        DUE.is("a blank", -1005, fault("n(1=1 )"));
    }

    private static void otherFaults() {
        DUE.is("a sixth digit", -2006, fault("w123456(1=1)"));
        DUE.is("a sixth digit that is 0", -2006, fault("w000000(1=1)"));
        DUE.is("a sixth digit in a C", -2007, fault("n(123456=1)"));
        DUE.is("a 15th CLAUSE", -4098, fault("n(1=1)" + ";n(1=1)".repeat(14)));
        DUE.is("a 15th letter alone", -4098, fault("n(1=1)" + ";n(1=1)".repeat(13) + ";w"));
        DUE.is("a 15th that can't stand", -1098, fault("n(1=1)" + ";n(1=1)".repeat(13) + ";k(1=1)"));
        DUE.is("the end there", -1098, fault("n(1=1)" + ";n(1=1)".repeat(13) + ";"));
        DUE.is("a seventh (", -5007, fault("n(((((((1=1)))))))"));
        DUE.is("a seventh [ in an E", -5007, fault("w[[[[[[[1]]]]]]](1=1)"));
        DUE.is("a seventh !", -5007, fault("n(!!!!!!1=1)"));
        DUE.is("a seventh ( behind !", -5007, fault("n(!!!!!(1=1))"));
        DUE.is("a seventh [ behind ! and (", -5007, fault("n(!(!(![1]=1)))"));
        DUE.is("a ! is open for the right E", -5009, fault("n(!!!!!1=[1])"));
        DUE.is("a ! is open no more", -5016, fault("n(!!!!!1=1&!!!!![1]=1)"));
        DUE.is("a ( where none can stand", -1009, fault("n((((((1=(1))))))"));
        DUE.is("a seventh [ on the right", -5009, fault("n(((((1=[[1]]))))))"));
    }

    private static void firstFaultFromTheLeft() {
        DUE.is("digits, then a sign", -2006, fault("w123456x"));
        DUE.is("a sign, then digits", -1001, fault("wx123456(1=1)"));
        DUE.is("open, then the end", -5007, fault("n((((((("));
        DUE.is("the end behind six", -1007, fault("n(((((("));
    }

    private static void textBeforeStays() {
        BellHours x = new BellHours();
        x.own(0, 3);
        x.act(3, 0, 0, 0);
        Due.law(x, 0, "w5(1=1);n(1=2)");
        DUE.is("by the first TEXT", 5, x.hourIs(0, 1));
        DUE.is("a fault", -1013, Due.law(x, 0, "w6(1=1);n(1=2"));
        DUE.is("the TEXT before stays", 5, x.hourIs(0, 1));
        DUE.is("and its CLAUSES", 2, x.count(0));
        Due.law(x, 1, "w7(1=1)");
        DUE.is("LAW 1 is another one", 5, x.hourIs(0, 1));
        DUE.is("in place of the one before", 1, Due.law(x, 0, "w8(1=1)"));
        DUE.is("by the second TEXT", 8, x.hourIs(0, 1));
        DUE.is("a third TEXT", 2, Due.law(x, 0, "f1(1=1);c1(1=1)"));
        DUE.is("no worth is told", 0, x.hourIs(0, 1));
    }

    /** Worth of one ACT (kind 3, amount 7, room 2) of OWNER 4 in HOUR 5, HOUR 4 being OWNER 9's. */
    private static int worth(String text) {
        BellHours x = new BellHours();
        x.own(5, 4);
        x.own(4, 9);
        x.room(2, 11, 22, 33);
        x.act(4, 3, 2, 7);
        int read = Due.law(x, 0, text);
        return read > 0 ? x.hourIs(5, 1) : read;
    }

    private static int number(String e) {
        return worth("w" + e + "(1=1)");
    }

    private static int condition(String c) {
        return worth("w1(" + c + ")");
    }

    private static void numbers() {
        String[] letters = {"k", "a", "r", "s", "d", "h", "t", "o", "p"};
        int[] are = {3, 7, 2, 11, 22, 33, 5, 4, 9};
        for (int i = 0; i < letters.length; i++) {
            DUE.is(letters[i], are[i], number(letters[i]));
        }
        DUE.is("from the left on", 5, number("10-3-2"));
        DUE.is("products bind more", 14, number("2+3*4"));
        DUE.is("brackets", 20, number("[2+3]*4"));
        DUE.is("/ and * from the left", 8, number("9/2*2"));
        DUE.is("% and * from the left", 2, number("9%4*2"));
        DUE.is("/ towards 0", 7, number("10+[0-7]/2"));
        DUE.is("% bears the sign of the first", 9, number("10+[0-7]%2"));
        DUE.is("leading zeros", 7, number("00007"));
        DUE.is("32 bits wrap", 1, condition("99999*99999/10000=14098*10+6"));
        DUE.is("the least number", 1, condition("32768*65535+32768-1+1<0"));
        DUE.is("the least by -1", 1, condition("[32768*65535+32768]/[0-1]<0"));
        DUE.is("the least % -1", 1, condition("[32768*65535+32768]%[0-1]=0"));
    }

    private static void conditions() {
        int[] want = {1, 0, 0, 1, 0, 0, 1, 0, 0, 1, 1, 0, 0, 1, 1, 0, 1, 1};
        String[] texts = {
            "1<2", "2<2", "3<2", "2>1", "2>2", "2>3", "2=2", "1=2", "!1=1", "!1=2", "!!1=1", "1=2|1=3", "1=1&1=2",
            "1=2&1=2|1=1", "1=1|1=2&1=2", "(1=1|1=2)&1=2", "!(1=1&1=2)", "!1=2&1=1"};
        for (int i = 0; i < texts.length; i++) {
            DUE.is(texts[i], want[i], condition(texts[i]));
        }
        DUE.is("a ! has but its PIECE", 0, condition("!1=2&1=2"));
    }

    private static void refused() {
        DUE.is("an E by 0", 0, number("5+1/0"));
        DUE.is("an E by % 0", 0, number("5+1%0"));
        DUE.is("0 times what is refused", 0, number("5+0*[1/0]"));
        DUE.is("a C by 0", 0, condition("1/0=0"));
        DUE.is("all of the C", 0, condition("!1/0=1"));
        DUE.is("out of brackets, too", 0, condition("!(1/0=1)"));
        DUE.is("on the right of a comparison", 0, condition("!1=1/0"));
        DUE.is("ahead of what holds", 0, condition("1/0=0|1=1"));
        DUE.is("behind what holds", 1, condition("1=1|1/0=0"));
        DUE.is("behind what does not", 0, condition("!(1=1&1/0=0)"));
        DUE.is("it does not matter", 1, condition("!(1=2&1/0=0)"));
        DUE.is("a second PART matters", 0, condition("1=2&1/0=0|1=2|1%0=0|1=1"));
        DUE.is("the next CLAUSE", 4, worth("w3(1/0=0);w4(1=1)"));
        DUE.is("not the next CLAUSE", 0, worth("w3/0(1=1);w4(1=1)"));
        BellHours x = new BellHours();
        x.own(0, 0);
        x.act(0, 0, 0, 0);
        Due.law(x, 0, "n(1/0=0)");
        DUE.is("n does not hold", 0, x.hourIs(0, 3));
    }

    private static void bounds() {
        DUE.is("w 999", 999, number("999"));
        DUE.is("w beyond", 999, number("1000"));
        DUE.is("w below 0", 0, number("0-1"));
        BellHours x = new BellHours();
        x.own(0, 0);
        x.room(1, 99, 99, 99);
        x.act(0, 0, 0, 0);
        x.act(0, 1, 1, 0);
        Due.law(x, 0, "s500(k=0);s0-500(k=1);d98(k=0);d0-98(k=1);h99(k=0);h0-99(k=1);f1000(r=0);f0-9(r=1);c0-5(r=0)");
        DUE.is("s 99", 99, x.found(1, 0, 0));
        DUE.is("s -99", 0, x.found(1, 1, 0));
        DUE.is("d 98", 98, x.found(1, 0, 1));
        DUE.is("d -98", 1, x.found(1, 1, 1));
        DUE.is("h 99, c 0", 99, x.found(1, 0, 2));
        DUE.is("h -99", 0, x.found(1, 1, 2));
        DUE.is("f 999 and 0", 999, x.hourIs(0, 2));
        Due.law(x, 0, "c5000(t=1)");
        x.room(0, 0, 0, 99);
        DUE.is("c ahead", 99, x.found(1, 0, 2));
        DUE.is("c 99", 0, x.found(2, 0, 2));
    }

    private static void firstClauseThatHolds() {
        DUE.is("the first", 1, worth("w1(k=3);w2(k=3)"));
        DUE.is("the second", 2, worth("w1(k=4);w2(k=3)"));
        DUE.is("none", 0, worth("w1(k=4);w2(k=5)"));
        DUE.is("others between", 2, worth("s9(1=1);w1(k=4);f2(1=1);w2(k=3);w3(k=3)"));
        DUE.is("any n", 0, worth("w9(1=1);n(1=2);n(1=3);n(k=3)"));
    }
}

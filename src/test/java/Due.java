/** Counts answers that are not the ones that are due, and feeds texts and numbers to a tape. */
final class Due {
    private static final int FED = 20;

    private final String test;
    private int asked = 0;
    private int wrong = 0;

    Due(String test) {
        this.test = test;
    }

    void is(String what, long want, long got) {
        asked++;
        if (want != got) {
            wrong++;
            System.out.println(test + ": " + what + " answered " + got + ", due is " + want);
        }
    }

    void yes(String what, boolean got) {
        is(what, 1, got ? 1 : 0);
    }

    void no(String what, boolean got) {
        is(what, 0, got ? 1 : 0);
    }

    void end() {
        System.out.println(test + ": " + asked + " answers, " + wrong + " wrong");
        if (wrong != 0 || asked == 0) {
            System.exit(1);
        }
    }

    /** Feeds a text, filled up with a sign that can stand nowhere; answers what the last feed did. */
    static int text(BellHours x, String text) {
        int last = x.count(2);
        for (int from = 0; from < text.length(); from += FED) {
            int[] five = new int[5];
            for (int i = 0; i < FED; i++) {
                int sign = from + i < text.length() ? text.charAt(from + i) : '~';
                five[i / 4] = five[i / 4] << 8 | sign;
            }
            last = x.feed(five[0], five[1], five[2], five[3], five[4]);
        }
        return last;
    }

    static int law(BellHours x, int w, String text) {
        text(x, text);
        return x.law(w, text.length());
    }
}

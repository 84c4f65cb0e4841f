import java.util.Random;

/** Texts of LAWS, drawn: most can be read, some are spoiled. */
final class DrawnTexts {
    private final Random random;

    DrawnTexts(Random random) {
        this.random = random;
    }

    /** What a palace might be held to: by such a text days differ, and owners gain by swaps. */
    private String sensibleText() {
        String[] clauses = {
            "s0-a%#(k<3)", "s#+r(k>3)", "da/#(k>2)", "d0-#(k=1)", "h#(k=1|r=2)", "h0-t(k=4)", "ws*#/[d+1](k<4)",
            "w#*o%19+t(s>d)", "w[t*[o+#]+k]%37(1=1)", "wd%#*[24-t](k>1)", "fd/#(d>20)", "fh-#(h>30)", "f#(s<o)",
            "c#+t%4(h>0)", "n(s<#&k=1|h>80)", "n(p=o&k=5)", "w#(p=o+1)", "w99/[s-#](1=1)"};
        StringBuilder text = new StringBuilder("w[t*[o+3]+k*7+s]%41(t%2=o%2)");
        for (int i = random.nextInt(10); i >= 0; i--) {
            String clause = clauses[random.nextInt(clauses.length)].replace("#", "" + (1 + random.nextInt(30)));
            if (text.length() + clause.length() < 200) {
                text.append(";").append(clause);
            }
        }
        return text.toString();
    }

    String lawText() {
        if (random.nextBoolean()) {
            return sensibleText();
        }
        StringBuilder text = new StringBuilder();
        int clauses = 1 + random.nextInt(16);
        for (int i = 0; i < clauses; i++) {
            char letter = "nsdhwfcsdhwfw".charAt(random.nextInt(13));
            String clause = letter + (letter == 'n' ? "" : sum(2)) + "(" + condition(letter == 'n' ? 1 : 2) + ")";
            if (text.length() + clause.length() + 1 <= 200) {
                text.append(text.length() == 0 ? "" : ";").append(clause);
            }
        }
        if (text.length() == 0) {
            text.append("wa+1(k<5)");
        }
        if (random.nextInt(3) == 0) {
            spoil(text);
        }
        return text.toString();
    }

    private void spoil(StringBuilder text) {
        int at = random.nextInt(text.length());
        String signs = "nsdhwfckartop0123456789+-*/%<>=()[]!&|; ~";
        char sign = signs.charAt(random.nextInt(signs.length()));
        switch (random.nextInt(4)) {
            case 0:
                text.setCharAt(at, sign);
                break;
            case 1:
                if (text.length() < 200) {
                    text.insert(at, sign);
                }
                break;
            case 2:
                text.setLength(at + 1);
                break;
            default:
                text.setCharAt(at, (char) random.nextInt(256));
                break;
        }
    }

    private String condition(int deep) {
        String is = piece(deep);
        while (random.nextInt(3) == 0) {
            is += (random.nextBoolean() ? "&" : "|") + piece(deep - 1);
        }
        return is;
    }

    private String piece(int deep) {
        int kind = random.nextInt(6);
        if (kind == 0 && deep > -6) {
            return "!" + piece(deep - 1);
        }
        if (kind == 1 && deep > -6) {
            return "(" + condition(deep - 1) + ")";
        }
        return sum(deep - 1) + "<>=".charAt(random.nextInt(3)) + sum(deep - 1);
    }

    private String sum(int deep) {
        String is = factor(deep);
        while (random.nextInt(3) == 0) {
            is += "+-*/%".charAt(random.nextInt(5)) + factor(deep - 1);
        }
        return is;
    }

    private String factor(int deep) {
        int kind = random.nextInt(8);
        if (kind == 0 && deep > -6) {
            return "[" + sum(deep - 1) + "]";
        }
        if (kind < 4) {
            return String.valueOf(random.nextInt(kind == 1 ? 3 : kind == 2 ? 30 : 100000));
        }
        return String.valueOf("karsdhtop".charAt(random.nextInt(9)));
    }
}

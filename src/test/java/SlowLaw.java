/** A second, slow reading of a LAW: faults by states and a row of open signs, answers straight from the text. */
final class SlowLaw {
    /** What is divided by 0. */
    private static final class Refused extends RuntimeException {
        private static final long serialVersionUID = 1L;
    }

    private static final String LETTERS = "karsdhtop";

    final String text;
    private int at;
    private int[] seen;

    SlowLaw(String text) {
        this.text = text;
    }

    int clauses() {
        return text.isEmpty() ? 0 : text.split(";").length;
    }

    // ---- faults

    private enum State { CLAUSE, OPEN, PIECE, OPERAND, NUMBER, AFTER, CLOSED }

    /** 0, or the fault as it is answered. */
    static int faultOf(String text) {
        State state = State.CLAUSE;
        StringBuilder open = new StringBuilder();
        int clauses = 0;
        int digits = 0;
        char side = 'E';
        for (int i = 0; i < text.length(); i++) {
            char c = text.charAt(i);
            if (state == State.PIECE && c != '!' && c != '(') {
                state = State.OPERAND;
                side = 'L';
            }
            if (state == State.NUMBER) {
                if (Character.isDigit(c) && c < 128) {
                    digits++;
                    if (digits == 6) {
                        return -2000 - i;
                    }
                    continue;
                }
                state = State.AFTER;
            }
            boolean inSquare = open.length() > 0 && open.charAt(open.length() - 1) == '[';
            if (state == State.CLAUSE) {
                if ("nsdhwfc".indexOf(c) < 0) {
                    return -1000 - i;
                }
                clauses++;
                if (clauses > 14) {
                    return -4000 - i;
                }
                state = c == 'n' ? State.OPEN : State.OPERAND;
                side = 'E';
            } else if (state == State.OPEN || state == State.PIECE) {
                if (c != '(' && (c != '!' || state == State.OPEN)) {
                    return -1000 - i;
                }
                if (open.length() == 6) {
                    return -5000 - i;
                }
                open.append(c);
                state = State.PIECE;
            } else if (state == State.OPERAND) {
                if (c == '[') {
                    if (open.length() == 6) {
                        return -5000 - i;
                    }
                    open.append(c);
                } else if (c >= '0' && c <= '9') {
                    digits = 1;
                    state = State.NUMBER;
                } else if (LETTERS.indexOf(c) >= 0) {
                    state = State.AFTER;
                } else {
                    return -1000 - i;
                }
            } else if (state == State.AFTER && "+-*/%".indexOf(c) >= 0) {
                state = State.OPERAND;
            } else if (state == State.AFTER && inSquare) {
                if (c != ']') {
                    return -1000 - i;
                }
                open.setLength(open.length() - 1);
            } else if (state == State.AFTER && side == 'E') {
                if (c != '(') {
                    return -1000 - i;
                }
                open.append(c);
                state = State.PIECE;
            } else if (state == State.AFTER && side == 'L') {
                if (c != '<' && c != '>' && c != '=') {
                    return -1000 - i;
                }
                side = 'R';
                state = State.OPERAND;
            } else {
                while (open.length() > 0 && open.charAt(open.length() - 1) == '!') {
                    open.setLength(open.length() - 1);
                }
                if (open.length() == 0) {
                    if (c != ';') {
                        return -1000 - i;
                    }
                    state = State.CLAUSE;
                } else if (c == '&' || c == '|') {
                    state = State.PIECE;
                } else if (c == ')') {
                    open.setLength(open.length() - 1);
                    state = State.CLOSED;
                } else {
                    return -1000 - i;
                }
            }
        }
        boolean whole = state == State.CLOSED && open.toString().replace("!", "").isEmpty();
        return whole ? 0 : -1000 - text.length();
    }

    // ---- answers

    boolean forbids(int[] seen) {
        return text.length() > 0 && said('n', seen) != null;
    }

    int says(char letter, int least, int most, int[] seen) {
        Integer is = text.isEmpty() ? null : said(letter, seen);
        return is == null ? 0 : Math.max(least, Math.min(most, is));
    }

    private Integer said(char letter, int[] seen) {
        this.seen = seen;
        for (String clause : text.split(";")) {
            if (clause.charAt(0) != letter) {
                continue;
            }
            int open = clause.indexOf('(');
            if (holds(clause.substring(open))) {
                return letter == 'n' ? 1 : number(clause.substring(1, open));
            }
        }
        return null;
    }

    private boolean holds(String c) {
        at = 0;
        try {
            return piece(c, true);
        } catch (Refused e) {
            return false;
        }
    }

    private int number(String e) {
        at = 0;
        try {
            return sum(e, true);
        } catch (Refused r) {
            return 0;
        }
    }

    private boolean condition(String c, boolean live) {
        boolean is = part(c, live);
        while (at < c.length() && c.charAt(at) == '|') {
            at++;
            boolean next = part(c, live && !is);
            is = is || next;
        }
        return is;
    }

    private boolean part(String c, boolean live) {
        boolean is = piece(c, live);
        while (at < c.length() && c.charAt(at) == '&') {
            at++;
            boolean next = piece(c, live && is);
            is = is && next;
        }
        return is;
    }

    private boolean piece(String c, boolean live) {
        if (c.charAt(at) == '!') {
            at++;
            return !piece(c, live);
        }
        if (c.charAt(at) == '(') {
            at++;
            boolean is = condition(c, live);
            at++;
            return is;
        }
        int left = sum(c, live);
        char sign = c.charAt(at++);
        int right = sum(c, live);
        return sign == '<' ? left < right : sign == '>' ? left > right : left == right;
    }

    private int sum(String c, boolean live) {
        int is = product(c, live);
        while (at < c.length() && "+-".indexOf(c.charAt(at)) >= 0) {
            char sign = c.charAt(at++);
            int next = product(c, live);
            is = sign == '+' ? is + next : is - next;
        }
        return is;
    }

    private int product(String c, boolean live) {
        int is = factor(c, live);
        while (at < c.length() && "*/%".indexOf(c.charAt(at)) >= 0) {
            char sign = c.charAt(at++);
            int next = factor(c, live);
            if (sign == '*') {
                is *= next;
            } else if (next == 0) {
                if (live) {
                    throw new Refused();
                }
                is = 0;
            } else {
                is = sign == '/' ? is / next : is % next;
            }
        }
        return is;
    }

    private int factor(String c, boolean live) {
        char sign = c.charAt(at++);
        if (sign == '[') {
            int is = sum(c, live);
            at++;
            return is;
        }
        if (sign < '0' || sign > '9') {
            return seen[LETTERS.indexOf(sign)];
        }
        int is = sign - '0';
        while (at < c.length() && Character.isDigit(c.charAt(at))) {
            is = is * 10 + c.charAt(at++) - '0';
        }
        return is;
    }
}

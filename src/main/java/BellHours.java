import java.util.Arrays;

/** A palace sold by the hour of day: who owns its hours, what they do there by a law, and what that is worth. */
public final class BellHours {
    public static final int NONE = -1;

    private static final int NO_SUCH = -1000000;
    private static final int NOT_THERE = -2;
    private static final int HOURS = 24;
    private static final int OWNERS = 12;
    private static final int NOBODY = 12;
    private static final int ROOMS = 8;
    private static final int KINDS = 7;
    private static final int MOST_ACTS = 5;
    private static final int MOST_IN_ROOM = 99;
    private static final int STORE = 0;
    private static final int DIRT = 1;
    private static final int HEAT = 2;
    private static final int ROOM_CELLS = 3;
    private static final int CELLS = ROOMS * ROOM_CELLS;
    private static final int ACT_CELLS = 3;
    private static final int MOST_TAPE = 220;
    private static final int FED = 20;
    private static final int MOST_TEXT = 200;
    private static final int MOST_CLAUSES = 14;
    private static final int MOST_OPEN = 6;
    private static final int MOST_DIGITS = 5;
    private static final int MOST_PENCE = 99999;
    private static final int MOST_DRAWN = 40;
    private static final int MOST_SEED = 65535;
    private static final int MOST_SWAPS = 10;
    private static final int WORD_WHOLE = 0;
    private static final int WORD_BROKEN = 1;
    private static final int WORD_NOTHING = 2;

    private final House house = new House();
    private final House kept = new House();
    private boolean wasKept = false;
    private final Tape tape = new Tape();
    private final Law[] laws = {new Law(), new Law()};
    private final Law spare = new Law();
    private final Reader reader = new Reader(tape.bytes, spare);
    // One place more than there are OWNERS: nobody looks into no ROOM.
    private final int[] looks = new int[OWNERS + 1];
    private final int[] words = new int[HOURS];
    private final Scene scene = new Scene();
    private final Day day = new Day(house, laws[0], scene);
    private final Day trial = new Day(house, laws[0], scene);
    private boolean dayStands = false;
    private final Trade trade = new Trade(day, trial, laws[0]);
    private final Orders orders = new Orders(house, laws[0], scene);
    private final Hiding hiding = new Hiding(house.owners, looks);
    private final Vase vase = new Vase(house.owners, words);

    public BellHours() {
        Arrays.fill(words, WORD_NOTHING);
    }

    public boolean own(int hour, int owner) {
        if (!isHour(hour) || !isOwner(owner) && owner != NONE) {
            return false;
        }
        house.owners[hour] = owner == NONE ? NOBODY : owner;
        forgetDay();
        return true;
    }

    public boolean room(int r, int store, int dirt, int heat) {
        if (!isRoom(r) || !fitsRoom(store) || !fitsRoom(dirt) || !fitsRoom(heat)) {
            return false;
        }
        house.rooms[r * ROOM_CELLS + STORE] = store;
        house.rooms[r * ROOM_CELLS + DIRT] = dirt;
        house.rooms[r * ROOM_CELLS + HEAT] = heat;
        forgetDay();
        return true;
    }

    public int feed(int a, int b, int c, int d, int e) {
        if (tape.size + FED > MOST_TAPE) {
            return NONE;
        }
        tape.add(a);
        tape.add(b);
        tape.add(c);
        tape.add(d);
        tape.add(e);
        return tape.size;
    }

    public int law(int w, int n) {
        if (!isLaw(w) || n < 1 || n > MOST_TEXT || n > tape.size) {
            return NONE;
        }
        int fault = reader.read(n);
        tape.size = 0;
        if (fault != 0) {
            return fault;
        }
        laws[w].takeOver(spare);
        forgetDay();
        return laws[w].clauses;
    }

    public int act(int owner, int kind, int room, int amount) {
        boolean known = isOwner(owner) && kind >= 0 && kind < KINDS && isRoom(room);
        if (!known || !fitsRoom(amount) || house.actCounts[owner] >= MOST_ACTS) {
            return NONE;
        }
        house.addAct(owner, kind, room, amount);
        forgetDay();
        return house.actCounts[owner];
    }

    public int noActs(int owner) {
        if (!isOwner(owner)) {
            return NONE;
        }
        int fallen = house.actCounts[owner];
        house.actCounts[owner] = 0;
        forgetDay();
        return fallen;
    }

    public int found(int hour, int room, int what) {
        if (!isHour(hour) && hour != HOURS || !isRoom(room) || what < STORE || what > HEAT) {
            return NONE;
        }
        runDay();
        return day.found[hour * CELLS + room * ROOM_CELLS + what];
    }

    public int hourIs(int hour, int what) {
        if (!isHour(hour)) {
            return NO_SUCH;
        }
        runDay();
        switch (what) {
            case 0:
                return day.owners[hour];
            case 1:
                return day.worths[hour];
            case 2:
                return day.fines[hour];
            case 3:
                return day.undone[hour];
            case 4:
                return day.firstUndone[hour];
            default:
                return NO_SUCH;
        }
    }

    public int value(int owner, int what) {
        if (!isOwner(owner)) {
            return NO_SUCH;
        }
        runDay();
        switch (what) {
            case 0:
                return day.valueOf(owner);
            case 1:
                return day.sumFor(owner, day.worths);
            case 2:
                return day.sumFor(owner, day.fines);
            case 3:
                return house.hoursIn(0, HOURS, owner);
            default:
                return NO_SUCH;
        }
    }

    public int bestOrder(int hour, int what) {
        if (!isOwned(hour) || what < NONE || what >= house.actCounts[house.owners[hour]]) {
            return NO_SUCH;
        }
        runDay();
        orders.seek(hour, day);
        return what == NONE ? orders.most : orders.best[what];
    }

    public int price(int hour) {
        if (!isOwned(hour)) {
            return NO_SUCH;
        }
        runDay();
        return trade.priceOf(hour);
    }

    public int neighbour(int hour) {
        if (!isOwned(hour)) {
            return NO_SUCH;
        }
        if (hour == 0) {
            return 0;
        }
        runDay();
        return trade.worthOfAhead(hour);
    }

    public int gain(int a, int b, int what) {
        if (!isOwned(a) || !isOwned(b) || house.owners[a] == house.owners[b]) {
            return NO_SUCH;
        }
        if (what != 0 && what != 1) {
            return NO_SUCH;
        }
        runDay();
        return trade.gainBySwap(a, b, house.owners[what == 0 ? a : b]);
    }

    public boolean swap(int a, int b) {
        if (!isHour(a) || !isHour(b) || a == b) {
            return false;
        }
        house.exchange(a, b);
        forgetDay();
        return true;
    }

    public int bestSwap(int what) {
        if (what < 0 || what > 2) {
            return NONE;
        }
        runDay();
        if (!trade.seek()) {
            return NOT_THERE;
        }
        if (what == 2) {
            return trade.together;
        }
        return what == 0 ? trade.one : trade.other;
    }

    public int tillNone() {
        int made = 0;
        while (made < MOST_SWAPS) {
            runDay();
            if (!trade.seek()) {
                return made;
            }
            house.exchange(trade.one, trade.other);
            forgetDay();
            made++;
        }
        return made;
    }

    public int finesBy(int w) {
        if (!isLaw(w)) {
            return NONE;
        }
        trial.begin();
        trial.run(0, laws[w]);
        int all = 0;
        for (int h = 0; h < HOURS; h++) {
            all += trial.fines[h];
        }
        return all;
    }

    public int touching(int a, int b) {
        if (!isOwner(a) || !isOwner(b) || a == b) {
            return NONE;
        }
        int times = 0;
        for (int h = 0; h < HOURS; h++) {
            int here = house.owners[h];
            int behind = house.owners[(h + 1) % HOURS];
            if (here == a && behind == b || here == b && behind == a) {
                times++;
            }
        }
        return times;
    }

    public boolean searches(int owner, int rooms) {
        if (!isOwner(owner) || rooms < 0 || rooms >= 1 << ROOMS) {
            return false;
        }
        looks[owner] = rooms;
        return true;
    }

    public int hidden(int from, int to, int helpers, int what) {
        if (!isStay(from, to) || helpers < 0 || helpers >= 1 << OWNERS) {
            return -3;
        }
        if (what != NONE && (what < from || what >= to)) {
            return -3;
        }
        if (!hiding.seek(from, to, helpers)) {
            return NOT_THERE;
        }
        return what == NONE ? hiding.moves : hiding.rooms[what];
    }

    public boolean says(int hour, int word) {
        if (!isHour(hour) || word < WORD_WHOLE || word > WORD_NOTHING) {
            return false;
        }
        words[hour] = word;
        return true;
    }

    public int holds(int liars) {
        if (liars < 0 || liars > OWNERS) {
            return NONE;
        }
        return vase.hoursThatHold(liars);
    }

    public int guilty(int liars) {
        if (liars < 0 || liars > OWNERS) {
            return NONE;
        }
        return vase.onlyOwnerOf(vase.hoursThatHold(liars));
    }

    public int guest(int from, int to, int pence, int owner) {
        if (!isStay(from, to) || pence < 0 || pence > MOST_PENCE || !isOwner(owner)) {
            return NONE;
        }
        return house.shareOf(from, to, pence, owner);
    }

    public int dies(int owner) {
        if (!isOwner(owner)) {
            return NONE;
        }
        int had = house.bequeath(owner);
        house.actCounts[owner] = 0;
        looks[owner] = 0;
        forgetDay();
        return had;
    }

    public boolean seed(int x) {
        if (x < 0 || x > MOST_SEED) {
            return false;
        }
        house.x = x;
        return true;
    }

    public int draw(int n) {
        if (n < 1 || n > MOST_DRAWN) {
            return NONE;
        }
        for (int i = 0; i < n; i++) {
            house.drawHour();
        }
        forgetDay();
        return house.ownedHours();
    }

    public int keep() {
        kept.takeOver(house);
        wasKept = true;
        return house.ownedHours();
    }

    public boolean undo() {
        if (!wasKept) {
            return false;
        }
        house.takeOver(kept);
        forgetDay();
        return true;
    }

    public int check(int hour, int n) {
        if (!isHour(hour) || n < 0 || n > ROOMS || n * Tape.NUMBER_BYTES > tape.size) {
            return NOT_THERE;
        }
        runDay();
        int wrong = firstWrongStore(hour, n);
        tape.size = 0;
        return wrong;
    }

    public int count(int what) {
        if (what >= 10 && what < 10 + OWNERS) {
            return house.actCounts[what - 10];
        }
        if (what >= 30 && what < 30 + HOURS) {
            return words[what - 30];
        }
        switch (what) {
            case 0:
            case 1:
                return laws[what].clauses;
            case 2:
                return tape.size;
            case 3:
                return house.x;
            case 4:
                return house.ownedHours();
            default:
                return NONE;
        }
    }

    private int firstWrongStore(int hour, int n) {
        for (int r = 0; r < n; r++) {
            if (tape.numberAt(r) != day.found[hour * CELLS + r * ROOM_CELLS + STORE]) {
                return r;
            }
        }
        return NONE;
    }

    private void forgetDay() {
        dayStands = false;
        trade.stands = false;
    }

    /** Many calls in a row ask of the same DAY: it is run anew only after something it hangs on has changed. */
    private void runDay() {
        if (dayStands) {
            return;
        }
        day.begin();
        day.run(0, laws[0]);
        dayStands = true;
    }

    private boolean isOwned(int hour) {
        return isHour(hour) && house.owners[hour] != NOBODY;
    }

    private static boolean isHour(int hour) {
        return hour >= 0 && hour < HOURS;
    }

    private static boolean isOwner(int owner) {
        return owner >= 0 && owner < OWNERS;
    }

    private static boolean isRoom(int room) {
        return room >= 0 && room < ROOMS;
    }

    private static boolean isLaw(int w) {
        return w == 0 || w == 1;
    }

    private static boolean fitsRoom(int amount) {
        return amount >= 0 && amount <= MOST_IN_ROOM;
    }

    private static boolean isStay(int from, int to) {
        return from >= 0 && from < to && to <= HOURS;
    }

    /** What is KEPT and UNDONE: HOURS, ROOMS, ACTS, X. */
    private static final class House {
        private final int[] owners = new int[HOURS];
        private final int[] rooms = new int[CELLS];
        private final int[] acts = new int[OWNERS * MOST_ACTS * ACT_CELLS];
        private final int[] actCounts = new int[OWNERS];
        private int x = 1;

        House() {
            Arrays.fill(owners, NOBODY);
        }

        void takeOver(House other) {
            System.arraycopy(other.owners, 0, owners, 0, HOURS);
            System.arraycopy(other.rooms, 0, rooms, 0, CELLS);
            System.arraycopy(other.acts, 0, acts, 0, acts.length);
            System.arraycopy(other.actCounts, 0, actCounts, 0, OWNERS);
            x = other.x;
        }

        void addAct(int owner, int kind, int room, int amount) {
            int at = actAt(owner, actCounts[owner]);
            acts[at] = kind;
            acts[at + 1] = room;
            acts[at + 2] = amount;
            actCounts[owner]++;
        }

        int actAt(int owner, int place) {
            return (owner * MOST_ACTS + place) * ACT_CELLS;
        }

        int ownedHours() {
            return HOURS - hoursIn(0, HOURS, NOBODY);
        }

        int hoursIn(int from, int to, int owner) {
            int hours = 0;
            for (int h = from; h < to; h++) {
                if (owners[h] == owner) {
                    hours++;
                }
            }
            return hours;
        }

        void exchange(int a, int b) {
            int owner = owners[a];
            owners[a] = owners[b];
            owners[b] = owner;
        }

        void drawHour() {
            x = (25173 * x + 13849) % 65536;
            owners[x % HOURS] = x / HOURS % OWNERS;
        }

        /** Its HOURS go to others, from HOUR 0 on: one that went already has the heir of those behind it. */
        int bequeath(int owner) {
            int had = 0;
            for (int h = 0; h < HOURS; h++) {
                if (owners[h] == owner) {
                    owners[h] = heirOf(h, owner);
                    had++;
                }
            }
            return had;
        }

        private int heirOf(int hour, int owner) {
            for (int back = 1; back < HOURS; back++) {
                int heir = owners[(hour + HOURS - back) % HOURS];
                if (heir != owner) {
                    return heir;
                }
            }
            return NOBODY;
        }

        int shareOf(int from, int to, int pence, int owner) {
            int paid = to - from - hoursIn(from, to, NOBODY);
            int mine = hoursIn(from, to, owner);
            if (paid < 1 || mine == 0) {
                return 0;
            }
            int left = pence;
            int lower = 0;
            for (int o = 0; o < OWNERS; o++) {
                int hours = hoursIn(from, to, o);
                left -= pence * hours / paid;
                if (o < owner && hours > 0) {
                    lower++;
                }
            }
            return pence * mine / paid + (lower < left ? 1 : 0);
        }
    }

    /** Bytes that wait to be read as a LAW or as numbers. */
    private static final class Tape {
        private static final int NUMBER_BYTES = 4;

        private final int[] bytes = new int[MOST_TAPE];
        private int size = 0;

        void add(int number) {
            for (int shift = 24; shift >= 0 && size < MOST_TAPE; shift -= 8) {
                bytes[size] = number >> shift & 255;
                size++;
            }
        }

        int numberAt(int place) {
            int is = 0;
            for (int i = 0; i < NUMBER_BYTES; i++) {
                is = is << 8 | bytes[place * NUMBER_BYTES + i];
            }
            return is;
        }
    }

    /** A LAW as steps over a pile of numbers: a step bears the sign it stands for in the TEXT. */
    private static final class Law {
        private static final String CLAUSE_LETTERS = "nsdhwfc";
        private static final int LETTERS = 7;
        private static final String SEEN_LETTERS = "karsdhtop";
        private static final int FORBIDS = 0;
        private static final int MORE_STORE = 1;
        private static final int MORE_DIRT = 2;
        private static final int MORE_HEAT = 3;
        private static final int WORTH = 4;
        private static final int FINE = 5;
        private static final int COOLS = 6;
        private static final int[] LEAST = {0, -99, -99, -99, 0, 0, 0};
        private static final int[] MOST = {1, 99, 99, 99, 999, 999, 99};
        private static final char NUMBER = '0';
        private static final char SEEN = 'k';
        // Six open brackets leave two numbers each on the pile; this is twice what that comes to.
        private static final int PILE = 32;

        private int clauses = 0;
        private int size = 0;
        private final char[] signs = new char[MOST_TEXT];
        private final int[] with = new int[MOST_TEXT];
        private final int[] numberFrom = new int[MOST_CLAUSES];
        private final int[] testFrom = new int[MOST_CLAUSES];
        private final int[] testTo = new int[MOST_CLAUSES];
        private final int[] ofLetter = new int[LETTERS * MOST_CLAUSES];
        private final int[] letterCounts = new int[LETTERS];
        private final int[] pile = new int[PILE];

        void clear() {
            clauses = 0;
            size = 0;
            Arrays.fill(letterCounts, 0);
        }

        void takeOver(Law other) {
            clauses = other.clauses;
            size = other.size;
            System.arraycopy(other.signs, 0, signs, 0, MOST_TEXT);
            System.arraycopy(other.with, 0, with, 0, MOST_TEXT);
            System.arraycopy(other.numberFrom, 0, numberFrom, 0, MOST_CLAUSES);
            System.arraycopy(other.testFrom, 0, testFrom, 0, MOST_CLAUSES);
            System.arraycopy(other.testTo, 0, testTo, 0, MOST_CLAUSES);
            System.arraycopy(other.ofLetter, 0, ofLetter, 0, ofLetter.length);
            System.arraycopy(other.letterCounts, 0, letterCounts, 0, LETTERS);
        }

        void put(char sign, int number) {
            if (size < MOST_TEXT) {
                signs[size] = sign;
                with[size] = number;
                size++;
            }
        }

        /** A step & or | is told the last step that it may pass over. */
        void passFrom(int step) {
            if (step >= 0 && step < size) {
                with[step] = size - 1;
            }
        }

        void addClause(int letter, int number, int test) {
            if (clauses < MOST_CLAUSES) {
                numberFrom[clauses] = number;
                testFrom[clauses] = test;
                testTo[clauses] = size;
                ofLetter[letter * MOST_CLAUSES + letterCounts[letter]] = clauses;
                letterCounts[letter]++;
                clauses++;
            }
        }

        /** What the first CLAUSE of a letter says whose C holds, within the letter's bounds. */
        int asks(int letter, int[] seen) {
            for (int i = 0; i < letterCounts[letter]; i++) {
                int clause = ofLetter[letter * MOST_CLAUSES + i];
                if (reckon(testFrom[clause], testTo[clause], seen) != 0) {
                    int is = reckon(numberFrom[clause], testFrom[clause], seen);
                    return Math.max(LEAST[letter], Math.min(MOST[letter], is));
                }
            }
            return 0;
        }

        /** What is REFUSED comes to 0, which is a C that does not hold and an E of 0 alike. */
        private int reckon(int from, int to, int[] seen) {
            int top = 0;
            for (int i = from; i < to && i < size; i++) {
                char sign = signs[i];
                if (sign == NUMBER || sign == SEEN) {
                    if (top >= PILE) {
                        return 0;
                    }
                    pile[top] = sign == NUMBER ? with[i] : seen[with[i]];
                    top++;
                } else if (sign == '!' || sign == '&' || sign == '|') {
                    if (top < 1) {
                        return 0;
                    }
                    boolean is = pile[top - 1] != 0;
                    if (sign == '!') {
                        pile[top - 1] = is ? 0 : 1;
                    } else if (is == (sign == '|')) {
                        i = Math.max(i, with[i]);
                    } else {
                        top--;
                    }
                } else {
                    if (top < 2 || isDivision(sign) && pile[top - 1] == 0) {
                        return 0;
                    }
                    top--;
                    pile[top - 1] = joined(sign, pile[top - 1], pile[top]);
                }
            }
            return top == 1 ? pile[0] : 0;
        }

        private static boolean isDivision(char sign) {
            return sign == '/' || sign == '%';
        }

        private static int joined(char sign, int a, int b) {
            switch (sign) {
                case '+':
                    return a + b;
                case '-':
                    return a - b;
                case '*':
                    return a * b;
                case '/':
                    return b == 0 ? 0 : a / b;
                case '%':
                    return b == 0 ? 0 : a % b;
                case '<':
                    return a < b ? 1 : 0;
                case '>':
                    return a > b ? 1 : 0;
                default:
                    return a == b ? 1 : 0;
            }
        }
    }

    /** Reads the TEXT of a LAW from the left, a sign ahead; the first fault ends it. */
    private static final class Reader {
        private static final int CANT_STAND = 1;
        private static final int SIXTH_DIGIT = 2;
        private static final int CLAUSE_TOO_MANY = 4;
        private static final int OPEN_TOO_MANY = 5;
        // A byte 0 can't stand anywhere either, so the end may look like one.
        private static final char END = 0;

        private final int[] text;
        private final Law law;
        private int size = 0;
        private int at = 0;
        private char sign = END;
        private int fault = 0;

        Reader(int[] text, Law law) {
            this.text = text;
            this.law = law;
        }

        /** 0, or the fault as it is answered. */
        int read(int n) {
            size = Math.min(n, text.length);
            at = -1;
            fault = 0;
            law.clear();
            next();
            boolean more = true;
            for (int i = 0; i <= MOST_CLAUSES && more; i++) {
                int letter = Law.CLAUSE_LETTERS.indexOf(sign);
                if (letter < 0) {
                    more = fails(CANT_STAND);
                } else if (i == MOST_CLAUSES) {
                    more = fails(CLAUSE_TOO_MANY);
                } else {
                    next();
                    more = readClause(letter) && at < size && passes(';');
                }
            }
            return fault;
        }

        private void next() {
            at++;
            sign = at < size ? (char) text[at] : END;
        }

        private boolean fails(int number) {
            fault = -1000 * number - at;
            return false;
        }

        private boolean passes(char wanted) {
            if (sign != wanted) {
                return fails(CANT_STAND);
            }
            next();
            return true;
        }

        /** Passes one of ( [ ! unless too many are open. */
        private boolean opens(char wanted, int open) {
            if (sign != wanted) {
                return fails(CANT_STAND);
            }
            if (open >= MOST_OPEN) {
                return fails(OPEN_TOO_MANY);
            }
            next();
            return true;
        }

        private boolean readClause(int letter) {
            int number = law.size;
            if (letter == Law.FORBIDS) {
                // A CLAUSE without an E says 1, so that it is asked as all others are.
                law.put(Law.NUMBER, 1);
            } else if (!readSum(0)) {
                return false;
            }
            int test = law.size;
            if (!readBracket(0)) {
                return false;
            }
            law.addClause(letter, number, test);
            return true;
        }

        private boolean readBracket(int open) {
            return opens('(', open) && readCondition(open + 1) && passes(')');
        }

        private boolean readCondition(int open) {
            boolean fine = readPart(open);
            for (int i = 0; i < size && fine && sign == '|'; i++) {
                next();
                int step = law.size;
                law.put('|', 0);
                fine = readPart(open);
                law.passFrom(step);
            }
            return fine;
        }

        private boolean readPart(int open) {
            boolean fine = readPiece(open);
            for (int i = 0; i < size && fine && sign == '&'; i++) {
                next();
                int step = law.size;
                law.put('&', 0);
                fine = readPiece(open);
                law.passFrom(step);
            }
            return fine;
        }

        private boolean readPiece(int open) {
            if (sign == '(') {
                return readBracket(open);
            }
            boolean fine;
            char step = sign;
            if (sign == '!') {
                fine = opens('!', open) && readPiece(open + 1);
            } else {
                fine = readSum(open);
                step = sign;
                fine = fine && comparison() && readSum(open);
            }
            law.put(step, 0);
            return fine;
        }

        private boolean comparison() {
            if (sign != '<' && sign != '>' && sign != '=') {
                return fails(CANT_STAND);
            }
            next();
            return true;
        }

        private boolean readSum(int open) {
            boolean fine = readProduct(open);
            for (int i = 0; i < size && fine && (sign == '+' || sign == '-'); i++) {
                char step = sign;
                next();
                fine = readProduct(open);
                law.put(step, 0);
            }
            return fine;
        }

        private boolean readProduct(int open) {
            boolean fine = readFactor(open);
            for (int i = 0; i < size && fine && (sign == '*' || sign == '/' || sign == '%'); i++) {
                char step = sign;
                next();
                fine = readFactor(open);
                law.put(step, 0);
            }
            return fine;
        }

        private boolean readFactor(int open) {
            if (sign == '[') {
                return opens('[', open) && readSum(open + 1) && passes(']');
            }
            if (sign >= '0' && sign <= '9') {
                return readNumber();
            }
            int letter = Law.SEEN_LETTERS.indexOf(sign);
            if (letter < 0) {
                return fails(CANT_STAND);
            }
            law.put(Law.SEEN, letter);
            next();
            return true;
        }

        private boolean readNumber() {
            int number = 0;
            for (int digits = 0; digits <= MOST_DIGITS && sign >= '0' && sign <= '9'; digits++) {
                if (digits == MOST_DIGITS) {
                    return fails(SIXTH_DIGIT);
                }
                number = number * 10 + sign - '0';
                next();
            }
            law.put(Law.NUMBER, number);
            return true;
        }
    }

    /** The ROOMS as they are at one moment, and what a LAW sees of one of them. */
    private static final class Scene {
        // Places in the order of Law.SEEN_LETTERS.
        private static final int SEEN_KIND = 0;
        private static final int SEEN_AMOUNT = 1;
        private static final int SEEN_ROOM = 2;
        private static final int SEEN_STORE = 3;
        private static final int SEEN_HOUR = 6;
        private static final int SEEN_OWNER = 7;
        private static final int SEEN_AHEAD = 8;

        private final int[] cells = new int[CELLS];
        private final int[] seen = new int[9];

        void enter(int hour, Day day) {
            System.arraycopy(day.found, hour * CELLS, cells, 0, CELLS);
            seen[SEEN_HOUR] = hour;
            seen[SEEN_OWNER] = day.owners[hour];
            seen[SEEN_AHEAD] = day.owners[(hour + HOURS - 1) % HOURS];
        }

        private void look(int kind, int room, int amount) {
            seen[SEEN_KIND] = kind;
            seen[SEEN_AMOUNT] = amount;
            seen[SEEN_ROOM] = room;
            System.arraycopy(cells, room * ROOM_CELLS, seen, SEEN_STORE, ROOM_CELLS);
        }

        /** The worth of the ACT that stands at a place of a row, NONE if it is not done. */
        int perform(Law law, int[] acts, int at) {
            int room = acts[at + 1];
            look(acts[at], room, acts[at + 2]);
            if (law.asks(Law.FORBIDS, seen) != 0) {
                return NONE;
            }
            change(room, STORE, law.asks(Law.MORE_STORE, seen));
            change(room, DIRT, law.asks(Law.MORE_DIRT, seen));
            change(room, HEAT, law.asks(Law.MORE_HEAT, seen));
            // What is seen is still the ROOM ahead of the ACT.
            return law.asks(Law.WORTH, seen);
        }

        private void change(int room, int what, int by) {
            int at = room * ROOM_CELLS + what;
            cells[at] = Math.max(0, Math.min(MOST_IN_ROOM, cells[at] + by));
        }

        int finesOfAll(Law law) {
            int all = 0;
            for (int room = 0; room < ROOMS; room++) {
                look(0, room, 0);
                all += law.asks(Law.FINE, seen);
            }
            return all;
        }

        void cool(Law law) {
            for (int room = 0; room < ROOMS; room++) {
                look(0, room, 0);
                change(room, HEAT, -law.asks(Law.COOLS, seen));
            }
        }
    }

    /** A DAY that was run: what each HOUR finds and comes to. */
    private static final class Day {
        private final House house;
        private final Law law;
        private final Scene scene;
        private final int[] owners = new int[HOURS];
        private final int[] found = new int[(HOURS + 1) * CELLS];
        private final int[] worths = new int[HOURS];
        private final int[] fines = new int[HOURS];
        private final int[] undone = new int[HOURS];
        private final int[] firstUndone = new int[HOURS];

        Day(House house, Law law, Scene scene) {
            this.house = house;
            this.law = law;
            this.scene = scene;
        }

        void begin() {
            System.arraycopy(house.owners, 0, owners, 0, HOURS);
            System.arraycopy(house.rooms, 0, found, 0, CELLS);
        }

        void beginLike(Day other) {
            System.arraycopy(other.owners, 0, owners, 0, HOURS);
            System.arraycopy(other.found, 0, found, 0, found.length);
            System.arraycopy(other.worths, 0, worths, 0, HOURS);
            System.arraycopy(other.fines, 0, fines, 0, HOURS);
        }

        /** HOURS ahead of the first one stay as they were run before. */
        void run(int first, Law fining) {
            for (int hour = first; hour < HOURS; hour++) {
                runHour(hour, fining);
            }
        }

        private void runHour(int hour, Law fining) {
            int owner = owners[hour];
            scene.enter(hour, this);
            worths[hour] = 0;
            fines[hour] = 0;
            undone[hour] = 0;
            firstUndone[hour] = NONE;
            if (owner != NOBODY) {
                for (int i = 0; i < house.actCounts[owner]; i++) {
                    note(hour, i, scene.perform(law, house.acts, house.actAt(owner, i)));
                }
                fines[hour] = scene.finesOfAll(fining);
            }
            scene.cool(law);
            System.arraycopy(scene.cells, 0, found, (hour + 1) * CELLS, CELLS);
        }

        private void note(int hour, int place, int worth) {
            if (worth != NONE) {
                worths[hour] += worth;
                return;
            }
            if (undone[hour] == 0) {
                firstUndone[hour] = place;
            }
            undone[hour]++;
        }

        int comesTo(int hour) {
            return worths[hour] - fines[hour];
        }

        int valueOf(int owner) {
            return sumFor(owner, worths) - sumFor(owner, fines);
        }

        int sumFor(int owner, int[] row) {
            int sum = 0;
            for (int h = 0; h < HOURS; h++) {
                if (owners[h] == owner) {
                    sum += row[h];
                }
            }
            return sum;
        }
    }

    /** What HOURS are worth, by trial days that are run beside the DAY as it is. */
    private static final class Trade {
        private final Day day;
        private final Day trial;
        private final Law law;
        private boolean stands = false;
        private int one = NONE;
        private int other = NONE;
        private int together = 0;

        Trade(Day day, Day trial, Law law) {
            this.day = day;
            this.trial = trial;
            this.law = law;
        }

        int priceOf(int hour) {
            int owner = day.owners[hour];
            trial.beginLike(day);
            trial.owners[hour] = NOBODY;
            trial.run(firstTouched(hour), law);
            return day.valueOf(owner) - trial.valueOf(owner);
        }

        /** Of an HOUR that has one ahead of it in the DAY. */
        int worthOfAhead(int hour) {
            trial.beginLike(day);
            trial.owners[hour - 1] = NOBODY;
            trial.run(hour - 1, law);
            return day.comesTo(hour) - trial.comesTo(hour);
        }

        int gainBySwap(int a, int b, int owner) {
            trial.run(beginSwapped(a, b), law);
            return gainOf(owner);
        }

        private int gainOf(int owner) {
            return trial.valueOf(owner) - day.valueOf(owner);
        }

        /** Answers the first HOUR that must be run anew. */
        private int beginSwapped(int a, int b) {
            trial.beginLike(day);
            trial.owners[a] = day.owners[b];
            trial.owners[b] = day.owners[a];
            return Math.min(firstTouched(a), firstTouched(b));
        }

        /** HOUR 0 sees whose the last HOUR is. */
        private static int firstTouched(int hour) {
            return hour == HOURS - 1 ? 0 : hour;
        }

        /** The BEST SWAP: whether there is one. */
        boolean seek() {
            if (stands) {
                return together > 0;
            }
            together = 0;
            for (int a = 0; a < HOURS; a++) {
                for (int b = a + 1; b < HOURS; b++) {
                    if (areOfTwo(day.owners[a], day.owners[b])) {
                        trial.run(beginSwapped(a, b), law);
                        weigh(a, b);
                    }
                }
            }
            stands = true;
            return together > 0;
        }

        private static boolean areOfTwo(int owner, int another) {
            return owner != NOBODY && another != NOBODY && owner != another;
        }

        private void weigh(int a, int b) {
            int first = gainOf(day.owners[a]);
            int second = gainOf(day.owners[b]);
            if (first > 0 && second > 0 && first + second > together) {
                one = a;
                other = b;
                together = first + second;
            }
        }
    }

    /** The BEST ORDER: all rows of an OWNER's ACTS are tried, the least first. */
    private static final class Orders {
        private static final int MOST_ROWS = 120;

        private final House house;
        private final Law law;
        private final Scene scene;
        private final int[] row = new int[MOST_ACTS];
        private final int[] best = new int[MOST_ACTS];
        private int most = 0;

        Orders(House house, Law law, Scene scene) {
            this.house = house;
            this.law = law;
            this.scene = scene;
        }

        void seek(int hour, Day day) {
            int acts = house.actCounts[day.owners[hour]];
            for (int i = 0; i < acts; i++) {
                row[i] = i;
            }
            boolean more = true;
            for (int tried = 0; more && tried < MOST_ROWS; tried++) {
                int sum = tryRow(hour, acts, day);
                if (tried == 0 || sum > most) {
                    most = sum;
                    System.arraycopy(row, 0, best, 0, acts);
                }
                more = nextRow(acts);
            }
        }

        private int tryRow(int hour, int acts, Day day) {
            scene.enter(hour, day);
            int sum = 0;
            for (int i = 0; i < acts; i++) {
                int worth = scene.perform(law, house.acts, house.actAt(day.owners[hour], row[i]));
                sum += Math.max(0, worth);
            }
            return sum - scene.finesOfAll(law);
        }

        private boolean nextRow(int acts) {
            int rising = acts - 2;
            while (rising >= 0 && row[rising] > row[rising + 1]) {
                rising--;
            }
            if (rising < 0) {
                return false;
            }
            int above = acts - 1;
            while (above > rising + 1 && row[above] < row[rising]) {
                above--;
            }
            exchangeAt(rising, above);
            int low = rising + 1;
            int high = acts - 1;
            while (low < high) {
                exchangeAt(low, high);
                low++;
                high--;
            }
            return true;
        }

        private void exchangeAt(int a, int b) {
            int act = row[a];
            row[a] = row[b];
            row[b] = act;
        }
    }

    /** Where a THING lies: fewest moves are reckoned from the last HOUR back, the least row is read off forwards. */
    private static final class Hiding {
        private static final int CANT_BE = 1000;

        private final int[] owners;
        private final int[] looks;
        private final int[] costs = new int[HOURS * ROOMS];
        private final int[] rooms = new int[HOURS];
        private int moves = 0;

        Hiding(int[] owners, int[] looks) {
            this.owners = owners;
            this.looks = looks;
        }

        boolean seek(int from, int to, int helpers) {
            for (int hour = to - 1; hour >= from; hour--) {
                for (int room = 0; room < ROOMS; room++) {
                    costs[hour * ROOMS + room] = costOf(hour, room, to, helpers);
                }
            }
            for (int hour = from; hour < to; hour++) {
                // In the first HOUR it may be anywhere: no ROOM is the one before.
                int before = hour == from ? NONE : rooms[hour - 1];
                rooms[hour] = bestRoom(hour, before, helpers);
            }
            moves = costs[from * ROOMS + rooms[from]];
            return moves < CANT_BE;
        }

        private int costOf(int hour, int room, int to, int helpers) {
            if ((looks[owners[hour]] >> room & 1) != 0) {
                return CANT_BE;
            }
            if (hour + 1 >= to) {
                return 0;
            }
            int next = bestRoom(hour + 1, room, helpers);
            return Math.min(CANT_BE, costWith(hour + 1, room, next, helpers));
        }

        private int bestRoom(int hour, int before, int helpers) {
            int best = 0;
            for (int room = 1; room < ROOMS; room++) {
                if (costWith(hour, before, room, helpers) < costWith(hour, before, best, helpers)) {
                    best = room;
                }
            }
            return best;
        }

        private int costWith(int hour, int before, int room, int helpers) {
            int cost = costs[hour * ROOMS + room];
            if (before == NONE || before == room) {
                return cost;
            }
            boolean helped = owners[hour] != NOBODY && (helpers >> owners[hour] & 1) != 0;
            return cost + (helped ? 1 : CANT_BE);
        }
    }

    /** In which HOUR THE VASE may have broken, by what OWNERS say. */
    private static final class Vase {
        private final int[] owners;
        private final int[] words;

        Vase(int[] owners, int[] words) {
            this.owners = owners;
            this.words = words;
        }

        /** HOURS as bits; bit 24: it did not break. */
        int hoursThatHold(int liars) {
            int bits = 0;
            for (int broke = 0; broke <= HOURS; broke++) {
                boolean mayBe = broke == HOURS || owners[broke] != NOBODY;
                if (mayBe && liarsIf(broke) <= liars) {
                    bits |= 1 << broke;
                }
            }
            return bits;
        }

        private int liarsIf(int broke) {
            int culprit = broke == HOURS ? NOBODY : owners[broke];
            int lying = 0;
            for (int h = 0; h < HOURS; h++) {
                boolean asked = owners[h] != NOBODY && owners[h] != culprit;
                if (asked && isUntrue(h, broke)) {
                    lying |= 1 << owners[h];
                }
            }
            return Integer.bitCount(lying);
        }

        private boolean isUntrue(int hour, int broke) {
            boolean wasBroken = hour > broke;
            return words[hour] == (wasBroken ? WORD_WHOLE : WORD_BROKEN);
        }

        int onlyOwnerOf(int bits) {
            int only = NOT_THERE;
            for (int h = 0; h <= HOURS; h++) {
                if ((bits >> h & 1) != 0) {
                    int owner = h == HOURS ? NOBODY : owners[h];
                    if (owner == NOBODY || only != NOT_THERE && only != owner) {
                        return NOT_THERE;
                    }
                    only = owner;
                }
            }
            return only;
        }
    }
}

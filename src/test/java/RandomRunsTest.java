import java.util.Random;

/** Runs of drawn calls, each answered by the class and by the slow palace alike. */
public final class RandomRunsTest {
    private static final int RUNS = 60;
    private static final int CALLS = 360;

    private final Random random;
    private final BellHours quick = new BellHours();
    private final SlowPalace slow = new SlowPalace();
    private final Due due;
    private final int run;
    private final int ownersUsed;
    private final DrawnTexts texts;

    private RandomRunsTest(int run, Due due) {
        this.random = new Random(run);
        this.run = run;
        this.due = due;
        this.texts = new DrawnTexts(random);
        this.ownersUsed = 2 + random.nextInt(11);
    }

    public static void main(String[] args) {
        Due due = new Due("RandomRunsTest");
        for (int run = 0; run < RUNS; run++) {
            RandomRunsTest one = new RandomRunsTest(run, due);
            one.setUp();
            for (int call = 0; call < CALLS; call++) {
                one.step(call);
            }
        }
        due.end();
    }

    /** Mostly within its bounds, now and then a step beyond one of them. */
    private int near(int low, int high) {
        int kind = random.nextInt(40);
        if (kind == 0) {
            return low - 1;
        }
        if (kind == 1) {
            return high + 1;
        }
        if (kind == 2) {
            return random.nextBoolean() ? Integer.MIN_VALUE : Integer.MAX_VALUE;
        }
        return low + random.nextInt(high - low + 1);
    }

    private int owner() {
        return near(0, random.nextInt(10) == 0 ? 11 : ownersUsed - 1);
    }

    private int hour() {
        return near(0, 23);
    }

    private void same(String call, int got, int want) {
        due.is("run " + run + ": " + call, want, got);
    }

    private void same(String call, boolean got, boolean want) {
        same(call, got ? 1 : 0, want ? 1 : 0);
    }

    private void feed(String text) {
        for (int from = 0; from < text.length(); from += 20) {
            int[] n = new int[5];
            for (int i = 0; i < 20; i++) {
                int sign = from + i < text.length() ? text.charAt(from + i) : random.nextInt(256);
                n[i / 4] = n[i / 4] << 8 | sign;
            }
            same("feed", quick.feed(n[0], n[1], n[2], n[3], n[4]), slow.feed(n[0], n[1], n[2], n[3], n[4]));
        }
    }

    private void emptyTape() {
        same("check", quick.check(0, 0), slow.check(0, 0));
    }

    private void setUp() {
        readLaw(0, texts.lawText());
        if (random.nextBoolean()) {
            readLaw(1, texts.lawText());
        }
        for (int h = 0; h < 24; h++) {
            if (random.nextInt(4) != 0) {
                int o = random.nextInt(ownersUsed);
                same("own", quick.own(h, o), slow.own(h, o));
            }
        }
        for (int i = 0; i < 20; i++) {
            addAct();
            setRoom();
        }
    }

    private void readLaw(int w, String text) {
        emptyTape();
        feed(text);
        same("law(" + w + ") " + text, quick.law(w, text.length()), slow.law(w, text.length()));
    }

    private void addAct() {
        int[] a = {owner(), near(0, 6), near(0, 7), near(0, 99)};
        same("act", quick.act(a[0], a[1], a[2], a[3]), slow.act(a[0], a[1], a[2], a[3]));
    }

    private void setRoom() {
        int[] a = {near(0, 7), near(0, 99), near(0, 99), near(0, 99)};
        same("room", quick.room(a[0], a[1], a[2], a[3]), slow.room(a[0], a[1], a[2], a[3]));
    }

    // ---- calls

    private void step(int call) {
        int kind = random.nextInt(100);
        if (kind < 40) {
            askOfDay(random.nextInt(9));
        } else if (kind < 65) {
            change(random.nextInt(12), call);
        } else {
            askOfHours(random.nextInt(9));
        }
    }

    private void askOfDay(int kind) {
        int a = hour();
        int b = hour();
        int o = owner();
        int what = near(0, 4);
        switch (kind) {
            case 0:
                a = near(0, 24);
                b = near(0, 7);
                same("found", quick.found(a, b, what - 1), slow.found(a, b, what - 1));
                break;
            case 1:
                same("hourIs", quick.hourIs(a, what), slow.hourIs(a, what));
                break;
            case 2:
                same("value", quick.value(o, what), slow.value(o, what));
                break;
            case 3:
                same("bestOrder", quick.bestOrder(a, what - 1), slow.bestOrder(a, what - 1));
                break;
            case 4:
                same("price", quick.price(a), slow.price(a));
                break;
            case 5:
                same("neighbour", quick.neighbour(a), slow.neighbour(a));
                break;
            case 6:
                what = near(0, 1);
                same("gain", quick.gain(a, b, what), slow.gain(a, b, what));
                break;
            case 7:
                what = near(0, 1);
                same("finesBy", quick.finesBy(what), slow.finesBy(what));
                break;
            default:
                check(a);
                break;
        }
    }

    private void check(int hour) {
        emptyTape();
        StringBuilder numbers = new StringBuilder();
        for (int r = 0; r < 8; r++) {
            int store = slow.found(Math.max(0, Math.min(23, hour)), r, 0);
            numbers.append("\0\0\0").append((char) (random.nextInt(12) == 0 ? store ^ 1 : store));
        }
        feed(numbers.toString());
        int n = near(0, 8);
        same("check", quick.check(hour, n), slow.check(hour, n));
    }

    private void change(int kind, int call) {
        int a = hour();
        int b = hour();
        int o = owner();
        switch (kind) {
            case 0:
                o = random.nextInt(3) == 0 ? -1 : o;
                same("own", quick.own(a, o), slow.own(a, o));
                break;
            case 1:
                setRoom();
                break;
            case 2:
            case 3:
                addAct();
                break;
            case 4:
                same("swap", quick.swap(a, b), slow.swap(a, b));
                break;
            case 5:
                readLaw(near(0, 1), texts.lawText());
                break;
            case 6:
                if (call % 4 == 0) {
                    same("dies", quick.dies(o), slow.dies(o));
                } else if (call % 4 == 1) {
                    same("noActs", quick.noActs(o), slow.noActs(o));
                }
                break;
            case 7:
                a = near(0, 65535);
                same("seed", quick.seed(a), slow.seed(a));
                break;
            case 8:
                a = call % 5 == 0 ? near(1, 40) : near(1, 3);
                same("draw", quick.draw(a), slow.draw(a));
                break;
            case 9:
                same("keep", quick.keep(), slow.keep());
                break;
            case 10:
                same("undo", quick.undo(), slow.undo());
                break;
            default:
                if (call % 6 == 0) {
                    same("tillNone", quick.tillNone(), slow.tillNone());
                } else if (call % 6 == 1) {
                    for (int what = -1; what < 4; what++) {
                        same("bestSwap", quick.bestSwap(what), slow.bestSwap(what));
                    }
                }
                break;
        }
    }

    private void askOfHours(int kind) {
        int a = hour();
        int b = near(0, 24);
        int o = owner();
        int what = near(-1, 23);
        switch (kind) {
            case 0:
                what = near(0, 255) & (random.nextBoolean() ? -1 : 85);
                same("searches", quick.searches(o, what), slow.searches(o, what));
                break;
            case 1:
            case 2:
                int helpers = near(0, 4095);
                b = random.nextInt(8) == 0 ? b : a + 1 + random.nextInt(6);
                what = random.nextInt(8) == 0 ? what : b - 1;
                same("hidden", quick.hidden(a, b, helpers, -1), slow.hidden(a, b, helpers, -1));
                same("hidden", quick.hidden(a, b, helpers, what), slow.hidden(a, b, helpers, what));
                break;
            case 3:
                what = near(0, 2);
                same("says", quick.says(a, what), slow.says(a, what));
                break;
            case 4:
                what = near(0, 12);
                same("holds", quick.holds(what), slow.holds(what));
                break;
            case 5:
                what = near(0, random.nextBoolean() ? 1 : 12);
                same("guilty", quick.guilty(what), slow.guilty(what));
                break;
            case 6:
                what = near(0, 99999);
                same("guest", quick.guest(a, b, what, o), slow.guest(a, b, what, o));
                break;
            case 7:
                what = owner();
                same("touching", quick.touching(o, what), slow.touching(o, what));
                break;
            default:
                what = near(0, 54);
                same("count", quick.count(what), slow.count(what));
                break;
        }
    }
}

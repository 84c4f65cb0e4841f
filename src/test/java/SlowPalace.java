import java.util.ArrayList;
import java.util.Arrays;
import java.util.List;
import java.util.TreeSet;

/** The document once more, in the plainest form: nothing is held that can be reckoned, every trial is a whole DAY. */
final class SlowPalace {
    private static final int NO = -1000000;

    /** All that a DAY tells. */
    private static final class Told {
        int[][][] found = new int[25][][];
        int[] worths = new int[24];
        int[] fines = new int[24];
        List<List<Integer>> undone = new ArrayList<>();
    }

    private Integer[] owners = new Integer[24];
    private int[][] rooms = new int[8][3];
    private List<List<int[]>> acts = new ArrayList<>();
    private int x = 1;
    private Object[] kept = null;
    private final SlowLaw[] laws = {new SlowLaw(""), new SlowLaw("")};
    private final StringBuilder tape = new StringBuilder();
    private final int[] searches = new int[12];
    private final int[] words = new int[24];

    SlowPalace() {
        Arrays.fill(words, 2);
        for (int o = 0; o < 12; o++) {
            acts.add(new ArrayList<>());
        }
    }

    private static boolean in(int low, int is, int high) {
        return low <= is && is <= high;
    }

    private static int[][] copyOf(int[][] rooms) {
        int[][] copy = new int[rooms.length][];
        for (int r = 0; r < rooms.length; r++) {
            copy[r] = rooms[r].clone();
        }
        return copy;
    }

    private static List<List<int[]>> copyOf(List<List<int[]>> acts) {
        List<List<int[]>> copy = new ArrayList<>();
        for (List<int[]> some : acts) {
            copy.add(new ArrayList<>(some));
        }
        return copy;
    }

    // ---- days

    private static int[] seen(int k, int a, int r, int[] room, int t, Integer[] owners) {
        Integer o = owners[t];
        Integer p = owners[t == 0 ? 23 : t - 1];
        return new int[] {k, a, r, room[0], room[1], room[2], t, o == null ? 12 : o, p == null ? 12 : p};
    }

    /** Worths less fines go to sums[0] and [1]; answers the places that were not done. */
    private List<Integer> runHour(int h, Integer[] by, List<int[]> todo, int[][] now, SlowLaw fining, int[] sums) {
        List<Integer> undone = new ArrayList<>();
        for (int i = 0; i < todo.size(); i++) {
            int[] act = todo.get(i);
            int[] room = now[act[1]];
            int[] seen = seen(act[0], act[2], act[1], room, h, by);
            if (laws[0].forbids(seen)) {
                undone.add(i);
                continue;
            }
            sums[0] += laws[0].says('w', 0, 999, seen);
            for (int j = 0; j < 3; j++) {
                room[j] = Math.max(0, Math.min(99, room[j] + laws[0].says("sdh".charAt(j), -99, 99, seen)));
            }
        }
        for (int r = 0; r < 8; r++) {
            sums[1] += fining.says('f', 0, 999, seen(0, 0, r, now[r], h, by));
        }
        return undone;
    }

    private Told run(Integer[] by, SlowLaw fining) {
        Told told = new Told();
        int[][] now = copyOf(rooms);
        for (int h = 0; h < 24; h++) {
            told.found[h] = copyOf(now);
            int[] sums = new int[2];
            told.undone.add(new ArrayList<>());
            if (by[h] != null) {
                told.undone.set(h, runHour(h, by, acts.get(by[h]), now, fining, sums));
            }
            told.worths[h] = sums[0];
            told.fines[h] = sums[1];
            for (int r = 0; r < 8; r++) {
                now[r][2] = Math.max(0, now[r][2] - laws[0].says('c', 0, 99, seen(0, 0, r, now[r], h, by)));
            }
        }
        told.found[24] = now;
        return told;
    }

    private Told run() {
        return run(owners, laws[0]);
    }

    private int worth(Integer[] by, int owner) {
        Told told = run(by, laws[0]);
        int is = 0;
        for (int h = 0; h < 24; h++) {
            if (by[h] != null && by[h] == owner) {
                is += told.worths[h] - told.fines[h];
            }
        }
        return is;
    }

    private Integer[] swapped(int a, int b) {
        Integer[] by = owners.clone();
        by[a] = owners[b];
        by[b] = owners[a];
        return by;
    }

    private Integer[] without(int h) {
        Integer[] by = owners.clone();
        by[h] = null;
        return by;
    }

    // ---- the face

    boolean own(int hour, int owner) {
        if (!in(0, hour, 23) || !in(-1, owner, 11)) {
            return false;
        }
        owners[hour] = owner < 0 ? null : Integer.valueOf(owner);
        return true;
    }

    boolean room(int r, int store, int dirt, int heat) {
        if (!in(0, r, 7) || !in(0, store, 99) || !in(0, dirt, 99) || !in(0, heat, 99)) {
            return false;
        }
        rooms[r] = new int[] {store, dirt, heat};
        return true;
    }

    int feed(int a, int b, int c, int d, int e) {
        if (tape.length() > 200) {
            return -1;
        }
        for (int n : new int[] {a, b, c, d, e}) {
            for (int shift = 24; shift >= 0; shift -= 8) {
                tape.append((char) (n >>> shift & 255));
            }
        }
        return tape.length();
    }

    int law(int w, int n) {
        if (!in(0, w, 1) || !in(1, n, 200) || n > tape.length()) {
            return -1;
        }
        String text = tape.substring(0, n);
        tape.setLength(0);
        int fault = SlowLaw.faultOf(text);
        if (fault != 0) {
            return fault;
        }
        laws[w] = new SlowLaw(text);
        return laws[w].clauses();
    }

    int act(int owner, int kind, int room, int amount) {
        if (!in(0, owner, 11) || !in(0, kind, 6) || !in(0, room, 7) || !in(0, amount, 99)) {
            return -1;
        }
        if (acts.get(owner).size() == 5) {
            return -1;
        }
        acts.get(owner).add(new int[] {kind, room, amount});
        return acts.get(owner).size();
    }

    int noActs(int owner) {
        if (!in(0, owner, 11)) {
            return -1;
        }
        int had = acts.get(owner).size();
        acts.get(owner).clear();
        return had;
    }

    int found(int hour, int room, int what) {
        return in(0, hour, 24) && in(0, room, 7) && in(0, what, 2) ? run().found[hour][room][what] : -1;
    }

    int hourIs(int hour, int what) {
        if (!in(0, hour, 23) || !in(0, what, 4)) {
            return NO;
        }
        Told told = run();
        List<Integer> undone = told.undone.get(hour);
        int first = undone.isEmpty() ? -1 : undone.get(0);
        int owner = owners[hour] == null ? 12 : owners[hour];
        return new int[] {owner, told.worths[hour], told.fines[hour], undone.size(), first}[what];
    }

    int value(int owner, int what) {
        if (!in(0, owner, 11) || !in(0, what, 3)) {
            return NO;
        }
        Told told = run();
        int[] is = new int[4];
        for (int h = 0; h < 24; h++) {
            if (owners[h] != null && owners[h] == owner) {
                is[0] += told.worths[h] - told.fines[h];
                is[1] += told.worths[h];
                is[2] += told.fines[h];
                is[3]++;
            }
        }
        return is[what];
    }

    int bestOrder(int hour, int what) {
        if (!in(0, hour, 23) || owners[hour] == null || !in(-1, what, acts.get(owners[hour]).size() - 1)) {
            return NO;
        }
        List<int[]> all = acts.get(owners[hour]);
        int[][] finds = run().found[hour];
        int most = Integer.MIN_VALUE;
        int[] best = null;
        // Rows are read as numbers with as many digits as there are ACTS; those with a digit twice are left out.
        int rows = (int) Math.pow(all.size(), all.size());
        for (int code = 0; code < rows; code++) {
            int[] row = new int[all.size()];
            TreeSet<Integer> digits = new TreeSet<>();
            int rest = code;
            for (int i = row.length - 1; i >= 0; i--) {
                row[i] = rest % row.length;
                rest /= row.length;
                digits.add(row[i]);
            }
            if (digits.size() != row.length) {
                continue;
            }
            List<int[]> todo = new ArrayList<>();
            for (int place : row) {
                todo.add(all.get(place));
            }
            int[] sums = new int[2];
            runHour(hour, owners, todo, copyOf(finds), laws[0], sums);
            if (sums[0] - sums[1] > most) {
                most = sums[0] - sums[1];
                best = row;
            }
        }
        return what < 0 ? most : best[what];
    }

    int price(int hour) {
        if (!in(0, hour, 23) || owners[hour] == null) {
            return NO;
        }
        return worth(owners, owners[hour]) - worth(without(hour), owners[hour]);
    }

    int neighbour(int hour) {
        if (!in(0, hour, 23) || owners[hour] == null) {
            return NO;
        }
        if (hour == 0) {
            return 0;
        }
        Told is = run();
        Told would = run(without(hour - 1), laws[0]);
        return is.worths[hour] - is.fines[hour] - (would.worths[hour] - would.fines[hour]);
    }

    private boolean ofTwo(int a, int b) {
        return owners[a] != null && owners[b] != null && !owners[a].equals(owners[b]);
    }

    int gain(int a, int b, int what) {
        if (!in(0, a, 23) || !in(0, b, 23) || !in(0, what, 1) || !ofTwo(a, b)) {
            return NO;
        }
        int owner = owners[what == 0 ? a : b];
        return worth(swapped(a, b), owner) - worth(owners, owner);
    }

    boolean swap(int a, int b) {
        if (!in(0, a, 23) || !in(0, b, 23) || a == b) {
            return false;
        }
        owners = swapped(a, b);
        return true;
    }

    private int[] best() {
        int[] best = null;
        for (int a = 0; a < 24; a++) {
            for (int b = a + 1; b < 24; b++) {
                if (!ofTwo(a, b)) {
                    continue;
                }
                int first = gain(a, b, 0);
                int second = gain(a, b, 1);
                if (first > 0 && second > 0 && (best == null || first + second > best[2])) {
                    best = new int[] {a, b, first + second};
                }
            }
        }
        return best;
    }

    int bestSwap(int what) {
        if (!in(0, what, 2)) {
            return -1;
        }
        int[] best = best();
        return best == null ? -2 : best[what];
    }

    int tillNone() {
        for (int made = 0; made < 10; made++) {
            int[] best = best();
            if (best == null) {
                return made;
            }
            owners = swapped(best[0], best[1]);
        }
        return 10;
    }

    int finesBy(int w) {
        return in(0, w, 1) ? Arrays.stream(run(owners, laws[w]).fines).sum() : -1;
    }

    int touching(int a, int b) {
        if (!in(0, a, 11) || !in(0, b, 11) || a == b) {
            return -1;
        }
        int times = 0;
        for (int h = 0; h < 24; h++) {
            int before = h == 0 ? 23 : h - 1;
            if (owners[h] != null && owners[before] != null) {
                times += owners[h] == a && owners[before] == b ? 1 : 0;
                times += owners[h] == b && owners[before] == a ? 1 : 0;
            }
        }
        return times;
    }

    boolean searches(int owner, int rooms) {
        if (!in(0, owner, 11) || !in(0, rooms, 255)) {
            return false;
        }
        searches[owner] = rooms;
        return true;
    }

    /** Forwards: of each ROOM that it may have come to, the fewest moves and with these the least row. */
    int hidden(int from, int to, int helpers, int what) {
        if (!in(0, from, 24) || !in(0, to, 24) || to <= from || !in(0, helpers, 4095)) {
            return -3;
        }
        if (what != -1 && !in(from, what, to - 1)) {
            return -3;
        }
        int[] moves = new int[8];
        String[] rows = {"", "", "", "", "", "", "", ""};
        for (int h = from; h < to; h++) {
            int[] nextMoves = new int[8];
            String[] next = new String[8];
            boolean helped = owners[h] != null && (helpers >> owners[h]) % 2 == 1;
            for (int r = 0; r < 8; r++) {
                boolean looked = owners[h] != null && (searches[owners[h]] >> r) % 2 == 1;
                for (int q = 0; q < 8 && !looked; q++) {
                    if (rows[q] == null || q != r && !helped) {
                        continue;
                    }
                    // Ahead of the first HOUR it lies where it will lie.
                    if (h == from && q != r) {
                        continue;
                    }
                    int m = moves[q] + (q == r ? 0 : 1);
                    String row = rows[q] + r;
                    if (next[r] == null || m < nextMoves[r] || m == nextMoves[r] && row.compareTo(next[r]) < 0) {
                        next[r] = row;
                        nextMoves[r] = m;
                    }
                }
            }
            rows = next;
            moves = nextMoves;
        }
        String best = null;
        int fewest = 0;
        for (int r = 0; r < 8; r++) {
            boolean better = rows[r] != null && (best == null || moves[r] < fewest
                || moves[r] == fewest && rows[r].compareTo(best) < 0);
            if (better) {
                best = rows[r];
                fewest = moves[r];
            }
        }
        if (best == null) {
            return -2;
        }
        return what < 0 ? fewest : best.charAt(what - from) - '0';
    }

    boolean says(int hour, int word) {
        if (!in(0, hour, 23) || !in(0, word, 2)) {
            return false;
        }
        words[hour] = word;
        return true;
    }

    int holds(int liars) {
        if (!in(0, liars, 12)) {
            return -1;
        }
        int bits = 0;
        for (int broke = 0; broke <= 24; broke++) {
            if (broke < 24 && owners[broke] == null) {
                continue;
            }
            TreeSet<Integer> liarsThen = new TreeSet<>();
            boolean whole = true;
            for (int h = 0; h < 24; h++) {
                if (owners[h] != null && words[h] != 2 && words[h] != (whole ? 0 : 1)) {
                    liarsThen.add(owners[h]);
                }
                whole = whole && h != broke;
            }
            if (broke < 24) {
                liarsThen.remove(owners[broke]);
            }
            bits += liarsThen.size() <= liars ? 1 << broke : 0;
        }
        return bits;
    }

    int guilty(int liars) {
        int bits = holds(liars);
        if (bits < 0) {
            return -1;
        }
        TreeSet<Integer> all = new TreeSet<>();
        for (int h = 0; h < 24; h++) {
            if ((bits & 1 << h) != 0) {
                all.add(owners[h]);
            }
        }
        return all.size() == 1 && (bits & 1 << 24) == 0 ? all.first() : -2;
    }

    int guest(int from, int to, int pence, int owner) {
        if (!in(0, from, 24) || !in(0, to, 24) || to <= from || !in(0, pence, 99999) || !in(0, owner, 11)) {
            return -1;
        }
        int[] hours = new int[12];
        int all = 0;
        for (int h = from; h < to; h++) {
            if (owners[h] != null) {
                hours[owners[h]]++;
                all++;
            }
        }
        if (all == 0) {
            return 0;
        }
        int[] gets = new int[12];
        int left = pence;
        for (int o = 0; o < 12; o++) {
            gets[o] = (int) ((long) pence * hours[o] / all);
            left -= gets[o];
        }
        for (int o = 0; o < 12 && left > 0; o++) {
            if (hours[o] > 0) {
                gets[o]++;
                left--;
            }
        }
        return gets[owner];
    }

    int dies(int owner) {
        if (!in(0, owner, 11)) {
            return -1;
        }
        Integer[] next = owners.clone();
        int had = 0;
        for (int h = 0; h < 24; h++) {
            if (owners[h] == null || owners[h] != owner) {
                continue;
            }
            had++;
            int at = h;
            int steps = 0;
            while (steps < 24 && owners[at] != null && owners[at] == owner) {
                at = at == 0 ? 23 : at - 1;
                steps++;
            }
            next[h] = steps == 24 ? null : owners[at];
        }
        owners = next;
        acts.get(owner).clear();
        searches[owner] = 0;
        return had;
    }

    boolean seed(int to) {
        if (!in(0, to, 65535)) {
            return false;
        }
        x = to;
        return true;
    }

    private int owned() {
        int is = 0;
        for (Integer o : owners) {
            is += o == null ? 0 : 1;
        }
        return is;
    }

    int draw(int n) {
        if (!in(1, n, 40)) {
            return -1;
        }
        for (int i = 0; i < n; i++) {
            x = (int) Math.floorMod(25173L * x + 13849L, 65536L);
            owners[x % 24] = x / 24 % 12;
        }
        return owned();
    }

    int keep() {
        kept = new Object[] {owners.clone(), copyOf(rooms), copyOf(acts), x};
        return owned();
    }

    @SuppressWarnings("unchecked")
    boolean undo() {
        if (kept == null) {
            return false;
        }
        owners = ((Integer[]) kept[0]).clone();
        rooms = copyOf((int[][]) kept[1]);
        acts = copyOf((List<List<int[]>>) kept[2]);
        x = (Integer) kept[3];
        return true;
    }

    int check(int hour, int n) {
        if (!in(0, hour, 23) || !in(0, n, 8) || 4 * n > tape.length()) {
            return -2;
        }
        int[][] finds = run().found[hour];
        int answer = -1;
        for (int r = n - 1; r >= 0; r--) {
            int number = 0;
            for (int i = 0; i < 4; i++) {
                number = number * 256 + tape.charAt(4 * r + i);
            }
            answer = number == finds[r][0] ? answer : r;
        }
        tape.setLength(0);
        return answer;
    }

    int count(int what) {
        if (in(10, what, 21)) {
            return acts.get(what - 10).size();
        }
        if (in(30, what, 53)) {
            return words[what - 30];
        }
        int[] is = {laws[0].clauses(), laws[1].clauses(), tape.length(), x, owned()};
        return in(0, what, 4) ? is[what] : -1;
    }
}

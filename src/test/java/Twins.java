import java.util.ArrayList;
import java.util.List;

/** Two palaces that were made alike, and all that one tells, to be held against the other. */
final class Twins {
    private Twins() {
    }

    /** A palace in which everything stands that can be changed; what is KEPT is not what is there. */
    static BellHours palace() {
        BellHours x = new BellHours();
        Due.law(x, 0, "s0-a%7(k<3);s3(k>2);d[a+t]%5(k>1);h4(k=1|k=4);w[t*[o+3]+s]%41(1=1);fd/9(d>9);c1(h>2);n(k=5)");
        Due.law(x, 1, "fs/9+h(r<5)");
        for (int r = 0; r < 8; r++) {
            x.room(r, 10 * r + 5, 3 * r, 40 - r);
        }
        for (int o = 0; o < 12; o++) {
            x.act(o, o % 7, o % 8, 7 * o);
            x.act(o, (o + 3) % 7, (o + 5) % 8, 9 * o);
        }
        for (int i = 0; i < 3; i++) {
            x.act(0, i, i, i);
        }
        x.own(0, 3);
        x.keep();
        for (int h = 0; h < 24; h += h % 5 == 0 ? 2 : 1) {
            x.own(h, h * 7 % 12);
            x.says(h, h % 3);
        }
        x.searches(3, 129);
        x.searches(7, 255);
        x.seed(777);
        Due.text(x, "w1(1=1);n(1=1)");
        return x;
    }

    /** All that a palace tells, its tape last: with the calls that made it they are some 360, of 512 that it has. */
    static int[] told(BellHours x) {
        List<Integer> all = new ArrayList<>();
        for (int what = 0; what < 54; what++) {
            all.add(x.count(what));
        }
        for (int h = 0; h < 24; h++) {
            for (int what = 0; what < 5; what++) {
                all.add(x.hourIs(h, what));
            }
            all.add(x.hidden(h, h + 1, 0, h));
        }
        for (int r = 0; r < 8; r++) {
            for (int what = 0; what < 3; what++) {
                all.add(x.found(0, r, what));
                all.add(x.found(24, r, what));
            }
        }
        for (int o = 0; o < 12; o++) {
            all.add(x.value(o, 0));
        }
        all.add(x.finesBy(0));
        all.add(x.finesBy(1));
        all.add(x.bestSwap(2));
        all.add(x.hidden(0, 24, 4095, -1));
        all.add(x.holds(1));
        all.add(x.check(0, 2));
        return all.stream().mapToInt(i -> i).toArray();
    }

    /** Where two rows differ first, -1 if nowhere. */
    static int firstUnlike(int[] due, int[] got) {
        for (int i = 0; i < due.length; i++) {
            if (due[i] != got[i]) {
                return i;
            }
        }
        return -1;
    }
}

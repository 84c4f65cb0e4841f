import java.util.Random;

/** Many drawn texts: their faults, and what one HOUR comes to by them. */
public final class RandomTextsTest {
    private static final int TEXTS = 30000;

    public static void main(String[] args) {
        Due due = new Due("RandomTextsTest");
        Random random = new Random(5);
        DrawnTexts texts = new DrawnTexts(random);
        for (int i = 0; i < TEXTS; i++) {
            String text = texts.lawText();
            BellHours x = new BellHours();
            int fault = SlowLaw.faultOf(text);
            int clauses = new SlowLaw(text).clauses();
            due.is("law " + text, fault != 0 ? fault : clauses, Due.law(x, 0, text));
            if (fault == 0) {
                oneAct(due, x, new SlowLaw(text), random);
            }
        }
        due.end();
    }

    private static void oneAct(Due due, BellHours x, SlowLaw law, Random random) {
        int[] seen = {random.nextInt(7), random.nextInt(100), random.nextInt(8), random.nextInt(100),
            random.nextInt(100), random.nextInt(100), 0, random.nextInt(12), random.nextInt(13)};
        x.own(0, seen[7]);
        x.own(23, seen[8] == 12 ? -1 : seen[8]);
        x.room(seen[2], seen[3], seen[4], seen[5]);
        x.act(seen[7], seen[0], seen[2], seen[1]);
        boolean done = !law.forbids(seen);
        due.is("n by " + law.text, done ? 0 : 1, x.hourIs(0, 3));
        due.is("w by " + law.text, done ? law.says('w', 0, 999, seen) : 0, x.hourIs(0, 1));
        int[] then = seen.clone();
        for (int j = 0; j < 3 && done; j++) {
            int more = law.says("sdh".charAt(j), -99, 99, seen);
            then[3 + j] = Math.max(0, Math.min(99, seen[3 + j] + more));
        }
        then[0] = 0;
        then[1] = 0;
        due.is("s by " + law.text, then[3], x.found(1, seen[2], 0));
        due.is("d by " + law.text, then[4], x.found(1, seen[2], 1));
        int cooler = Math.max(0, then[5] - law.says('c', 0, 99, then));
        due.is("h and c by " + law.text, cooler, x.found(1, seen[2], 2));
    }
}

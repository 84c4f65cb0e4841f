import java.lang.management.ManagementFactory;
import java.lang.reflect.Constructor;
import java.lang.reflect.Field;
import java.lang.reflect.Method;
import java.lang.reflect.Modifier;
import java.util.Set;
import java.util.TreeSet;

/** The face is the document's and no more, and calls make no objects. */
public final class FaceTest {
    private static final Due DUE = new Due("FaceTest");
    private static final String[] METHODS = {
        "boolean own 2", "boolean room 4", "int feed 5", "int law 2", "int act 4", "int noActs 1", "int found 3",
        "int hourIs 2", "int value 2", "int bestOrder 2", "int price 1", "int neighbour 1", "int gain 3",
        "boolean swap 2", "int bestSwap 1", "int tillNone 0", "int finesBy 1", "int touching 2", "boolean searches 2",
        "int hidden 4", "boolean says 2", "int holds 1", "int guilty 1", "int guest 4", "int dies 1", "boolean seed 1",
        "int draw 1", "int keep 0", "boolean undo 0", "int check 2", "int count 1"};

    public static void main(String[] args) {
        constants();
        methods();
        namesInside();
        memory();
        DUE.end();
    }

    private static void constants() {
        DUE.is("NONE", -1, BellHours.NONE);
        for (Field f : BellHours.class.getDeclaredFields()) {
            DUE.yes("the field " + f.getName(), Modifier.isPrivate(f.getModifiers()) || f.getName().equals("NONE"));
        }
        for (Constructor<?> c : BellHours.class.getDeclaredConstructors()) {
            DUE.yes("a constructor", Modifier.isPublic(c.getModifiers()) && c.getParameterCount() == 0);
        }
        DUE.yes("final", Modifier.isFinal(BellHours.class.getModifiers()));
    }

    private static void methods() {
        Set<String> want = new TreeSet<>(Set.of(METHODS));
        for (Method m : BellHours.class.getDeclaredMethods()) {
            String face = m.getReturnType() + " " + m.getName() + " " + m.getParameterCount();
            DUE.yes("the method " + face, Modifier.isPrivate(m.getModifiers()) || want.remove(face));
            for (Class<?> type : m.getParameterTypes()) {
                DUE.yes("a parameter of " + face, Modifier.isPrivate(m.getModifiers()) || type == int.class);
            }
        }
        DUE.is("all methods are there, but for " + want, 0, want.size());
    }

    private static void namesInside() {
        Set<String> face = new TreeSet<>();
        for (String method : METHODS) {
            face.add(method.split(" ")[1]);
        }
        Class<?>[] inside = BellHours.class.getDeclaredClasses();
        DUE.yes("at most twelve classes", inside.length < 12);
        for (Class<?> c : inside) {
            DUE.yes(c + " is static", Modifier.isStatic(c.getModifiers()));
            for (Method m : c.getDeclaredMethods()) {
                DUE.no(c + " has a name of the face: " + m.getName(), face.contains(m.getName()));
                DUE.yes("parameters of " + m.getName(), m.getParameterCount() <= 7);
            }
        }
    }

    private static long made() {
        com.sun.management.ThreadMXBean beans = (com.sun.management.ThreadMXBean) ManagementFactory.getThreadMXBean();
        return beans.getThreadAllocatedBytes(Thread.currentThread().getId());
    }

    private static void memory() {
        made();
        long before = made();
        BellHours x = new BellHours();
        long object = made() - before;
        DUE.yes("an object has " + object + " bytes", object < 30000);
        everyCall(x);
        before = made();
        for (int i = 0; i < 10; i++) {
            everyCall(x);
        }
        long calls = made() - before;
        DUE.yes("310 calls made " + calls + " bytes", calls < 5000);
    }

    private static void everyCall(BellHours x) {
        // w9(t>r);n(s>5)
        x.feed(0x77392874, 0x3e72293b, 0x6e28733e, 0x35290000, 0);
        x.law(0, 14);
        x.own(3, 4);
        x.room(1, 2, 3, 4);
        x.act(4, 5, 6, 7);
        x.found(24, 0, 0);
        x.hourIs(3, 1);
        x.value(4, 0);
        x.bestOrder(3, 0);
        x.price(3);
        x.neighbour(3);
        x.draw(3);
        x.gain(3, 22, 0);
        x.swap(1, 2);
        x.bestSwap(0);
        x.tillNone();
        x.finesBy(1);
        x.touching(4, 5);
        x.searches(4, 77);
        x.hidden(0, 24, 4095, -1);
        x.says(3, 1);
        x.holds(1);
        x.guilty(1);
        x.guest(0, 24, 999, 4);
        x.seed(9);
        x.keep();
        x.dies(4);
        x.undo();
        x.check(0, 0);
        x.count(4);
        x.noActs(4);
    }
}

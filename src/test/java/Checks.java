import java.lang.reflect.Method;
import java.util.Arrays;
import java.util.Comparator;

/** What the tests share: answers that are due, calls that are refused, and small archives. */
abstract class Checks {
    static final Class<?> INDEX = IndexOutOfBoundsException.class;
    static final Class<?> ARGUMENT = IllegalArgumentException.class;
    static final Class<?> STATE = IllegalStateException.class;

    interface Call {
        long answer();
    }

    interface Maker {
        LeafCradles make();
    }

    interface CallOn {
        long answer(LeafCradles x);
    }

    interface CallWith {
        long answer(LeafCradles x, int value);
    }

    private static final int MOST_SHOWN = 40;

    private static int wrong = 0;
    private static String label = "";

    /** Names the promise, or the document's sentence, that the next checks are about. */
    static void about(String words) {
        label = words;
    }

    private static void fault(String text) {
        wrong++;
        if (wrong <= MOST_SHOWN) {
            System.out.println("'" + label + "': " + text);
        }
    }

    static void due(String what, long got, long want) {
        if (got != want) {
            fault(what + " answered " + got + ", due is " + want);
        }
    }

    /** The answers for 0, 1, 2 .. are these. */
    static void dueAll(String what, CallWith call, LeafCradles x, int... wants) {
        for (int i = 0; i < wants.length; i++) {
            due(what + ", " + i, call.answer(x, i), wants[i]);
        }
    }

    static Class<?> thrownBy(Call call) {
        try {
            call.answer();
            return null;
        } catch (RuntimeException e) {
            return e.getClass();
        }
    }

    /** The call throws just this, and changes nothing. */
    static void refused(String what, LeafCradles x, Class<?> want, Call call) {
        long before = x.digest();
        Class<?> got = thrownBy(call);
        if (got != want) {
            fault(what + " threw " + got + ", due is " + want);
        }
        due("digest() behind the refused " + what, x.digest(), before);
    }

    /** The first and the last value are taken; those beside them, and the farthest numbers, are refused. */
    static void range(String what, Maker maker, int least, int greatest, Class<?> want, CallWith call) {
        for (int value : new int[] {least, greatest}) {
            LeafCradles x = maker.make();
            Class<?> got = thrownBy(() -> call.answer(x, value));
            if (got != null) {
                fault(what + " of " + value + " threw " + got + ", it is to be taken");
            }
        }
        for (int value : new int[] {least - 1, greatest + 1, Integer.MIN_VALUE, Integer.MAX_VALUE}) {
            LeafCradles x = maker.make();
            refused(what + " of " + value, x, want, () -> call.answer(x, value));
        }
    }

    static void append(LeafCradles x, String text) {
        for (int i = 0; i < text.length(); i++) {
            x.append(text.charAt(i));
        }
    }

    /** One volume of so many leaves, which lies on a cradle of the greatest gentleness. */
    static LeafCradles laid(int leaves, int state) {
        LeafCradles x = new LeafCradles();
        x.addVolume(0, 1, leaves, state);
        x.addCradle(3, 2);
        x.addCarrier();
        x.bring(0, 0, 0);
        x.pass(1);
        return x;
    }

    /** At the minute 20000, without volumes. */
    static LeafCradles atTheLastMinute() {
        LeafCradles x = new LeafCradles();
        for (int i = 0; i < 40; i++) {
            x.pass(500);
        }
        return x;
    }

    /** The log has so many entries, one volume goes to and fro, and at the end all stands still. */
    static LeafCradles withEntries(int entries) {
        LeafCradles x = new LeafCradles();
        x.addVolume(0, 1, 40, 0);
        x.addCradle(1, 0);
        x.addCarrier();
        x.set(0, 9);
        for (int i = 0; i < entries; i++) {
            if (i % 2 == 0) {
                x.bring(0, 0, 0);
            } else {
                x.takeBack(0, 0);
            }
            x.pass(1);
        }
        return x;
    }

    /**
     * A bit of everything: volume 0 lies on cradle 0 with one leaf faulty and two good, volume 1 (large, worn) is in
     * its box, volume 2 is on its way back by carrier 1, carrier 0 is not busy, cradle 1 is free, the buffer is a
     * complete list for a leaf 9 that none of them has.
     */
    static LeafCradles mixed() {
        LeafCradles x = new LeafCradles();
        x.addVolume(0, 1, 5, 0);
        x.addVolume(4, 3, 3, 1);
        x.addVolume(6, 1, 2, 0);
        x.addCradle(2, 1);
        x.addCradle(1, 0);
        x.addCarrier();
        x.addCarrier();
        x.bring(0, 0, 0);
        x.bring(2, 1, 1);
        x.pass(4);
        x.reject(0, 1);
        x.set(0, 5);
        x.pass(4);
        x.set(3, 2);
        x.takeBack(2, 0);
        x.pass(1);
        x.undo();
        x.undo();
        x.takeBack(2, 1);
        append(x, "9:1800");
        return x;
    }

    /** Runs every method of the class whose name begins with test, by name. */
    static void runAll(Class<?> tests) {
        Method[] methods = tests.getDeclaredMethods();
        Arrays.sort(methods, Comparator.comparing(Method::getName));
        for (Method method : methods) {
            if (method.getName().startsWith("test")) {
                run(method);
            }
        }
        System.out.println(wrong == 0 ? "all answers are as due" : wrong + " answers are not as due");
        if (wrong != 0) {
            System.exit(1);
        }
    }

    private static void run(Method method) {
        try {
            method.setAccessible(true);
            method.invoke(null);
        } catch (ReflectiveOperationException e) {
            fault(method.getName() + " was cut off by " + e.getCause());
        }
    }
}

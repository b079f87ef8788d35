import java.util.NoSuchElementException;

/** What the project's tests share: counts checks, and prints each one that does not hold, with its place. */
abstract class Checks {
    static final Class<?> NO_SUCH = NoSuchElementException.class;
    static final Class<?> ARGUMENT = IllegalArgumentException.class;
    static final Class<?> STATE = IllegalStateException.class;
    static final int NONE = OwnerRows.NONE;
    static final int LAST = 100000;
    static final int LEAST_INT = Integer.MIN_VALUE;
    static final int MOST_INT = Integer.MAX_VALUE;

    private static String part = "";
    private static int parts = 0;
    private static int checks = 0;
    private static int wrong = 0;

    interface Call {
        Object run();
    }

    interface Act {
        void run();
    }

    /** A part of a test, by the words that are printed where one of its checks does not hold. */
    static void part(String words, Act act) {
        part = words;
        parts++;
        int before = checks;
        try {
            act.run();
        } catch (RuntimeException e) {
            report("ended by " + e + " at " + e.getStackTrace()[0]);
        }
        if (checks == before) {
            report("nothing was checked");
        }
    }

    static void is(Object want, Object got) {
        checks++;
        if (!want.equals(got)) {
            report("answered " + got + ", due is " + want);
        }
    }

    static void fails(Class<?> want, Call call) {
        checks++;
        Object got;
        try {
            got = "answered " + call.run();
        } catch (RuntimeException e) {
            got = e.getClass();
        }
        if (!want.equals(got)) {
            report(got + ", due is " + want);
        }
    }

    static void failsAct(Class<?> want, Act act) {
        fails(want, () -> {
            act.run();
            return "nothing";
        });
    }

    static void report(String text) {
        wrong++;
        System.out.println(part + ", line " + lineOfTest() + ": " + text);
    }

    private static int lineOfTest() {
        for (StackTraceElement e : new Throwable().getStackTrace()) {
            if (!e.getClassName().equals("Checks") && !e.getClassName().startsWith("Checks$")) {
                return e.getLineNumber();
            }
        }
        return 0;
    }

    static void end() {
        System.out.println(checks + " checks in " + parts + " parts, " + wrong + " wrong");
        if (wrong != 0) {
            System.exit(1);
        }
    }

    static OwnerRows withThings(int n) {
        OwnerRows x = new OwnerRows();
        for (int i = 0; i < n; i++) {
            x.thing();
        }
        return x;
    }

    static String chainOf(OwnerRows x, int thing, int day) {
        int length = x.chain(thing, day, NONE);
        StringBuilder text = new StringBuilder();
        for (int i = 0; i < length; i++) {
            text.append((char) x.chain(thing, day, i));
        }
        return text.toString();
    }

    static String gapsOf(OwnerRows x, int thing, int day) {
        StringBuilder text = new StringBuilder();
        for (int k = 0; x.gap(thing, k, 0, day) != NONE; k++) {
            text.append(x.gap(thing, k, 0, day)).append("..").append(x.gap(thing, k, 1, day)).append(' ');
        }
        return text.toString().trim();
    }

    static String heldOf(OwnerRows x, int thing, int on, int day) {
        return x.held(thing, on, day, 0) + "/" + x.held(thing, on, day, 1);
    }
}

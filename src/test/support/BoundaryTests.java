import java.lang.reflect.InvocationTargetException;
import java.lang.reflect.Method;
import java.util.ArrayList;
import java.util.Comparator;
import java.util.List;
import java.util.TreeSet;
import java.util.regex.Matcher;
import java.util.regex.Pattern;

/**
 * Runs each method whose name is "promise", a number and a boundary case as a
 * test of its own, so that none can be left out of a list and one that fails
 * hides no other.
 */
abstract class BoundaryTests {
    static final int BAD = -1, NOT = -2, FULL = -3, VOID = -2000000000;
    static final int MIN = Integer.MIN_VALUE, MAX = Integer.MAX_VALUE;
    private static final Pattern NAME = Pattern.compile("promise(\\d+)[A-Z]\\w*");
    private static String running = "";
    private static int checks = 0;
    private static int wrong = 0;

    static void due(String call, int got, int want) {
        checks++;
        if (got != want) {
            fault(call + " answered " + got + ", due is " + want);
        }
    }

    private static void fault(String text) {
        wrong++;
        System.out.println(running + ": " + text);
    }

    private static int promiseOf(Method test) {
        Matcher name = NAME.matcher(test.getName());
        return name.matches() ? Integer.parseInt(name.group(1)) : 0;
    }

    private static List<Method> testsOf(Class<?> tests) {
        List<Method> found = new ArrayList<>();
        for (Method m : tests.getDeclaredMethods()) {
            if (promiseOf(m) != 0) {
                found.add(m);
            }
        }
        found.sort(Comparator.comparingInt(BoundaryTests::promiseOf).thenComparing(Method::getName));
        return found;
    }

    private static void run(Method test) {
        running = test.getName();
        int before = checks;
        try {
            test.invoke(null);
        } catch (InvocationTargetException e) {
            fault("threw " + e.getCause());
        } catch (IllegalAccessException e) {
            fault("can't be run: " + e);
        }
        if (checks == before) {
            fault("looks at no answer");
        }
    }

    /** A promise of the span without a test is a fault too. */
    static void runAll(Class<?> tests, int firstPromise, int lastPromise) {
        TreeSet<Integer> missing = new TreeSet<>();
        for (int p = firstPromise; p <= lastPromise; p++) {
            missing.add(p);
        }
        List<Method> found = testsOf(tests);
        for (Method test : found) {
            missing.remove(promiseOf(test));
            run(test);
        }
        running = tests.getSimpleName();
        if (!missing.isEmpty()) {
            fault("no test for promises " + missing);
        }
        System.out.println(found.size() + " boundary cases, " + checks + " checks, " + wrong + " wrong");
        if (wrong != 0) {
            System.exit(1);
        }
    }

    // ---- what the tests begin with

    static BridleBook withKites(int n) {
        BridleBook b = new BridleBook();
        for (int i = 0; i < n; i++) {
            b.kite();
        }
        return b;
    }

    /** Lines of 10 steps that hold and weigh nothing. */
    static BridleBook withLines(int n) {
        BridleBook b = new BridleBook();
        for (int i = 0; i < n; i++) {
            b.line(10, 99999, 0);
        }
        return b;
    }

    /**
     * Kite 0 of one panel (area 10, arm 1, no weight): by wind 10 its TURN and its
     * UP at an angle are the LIFT told for it; the last one told goes on up to 17.
     */
    static BridleBook withLifts(int... lifts) {
        BridleBook b = withKites(1);
        b.panel(0, 10, 1, 0);
        for (int a = 0; a < 18; a++) {
            b.table(a, 0, lifts[Math.min(a, lifts.length - 1)]);
        }
        return b;
    }

    /** Kite 0 that pulls so far UP and BACK by wind 10 (it stands at angle 0). */
    static BridleBook withPull(int up, int back) {
        BridleBook b = withLifts(up, up > 0 ? -99 : 99);
        b.table(0, 1, back);
        return b;
    }

    static int place(int x, int y) {
        return 200 * x + y;
    }
}

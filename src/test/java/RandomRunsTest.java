import java.lang.reflect.InvocationTargetException;
import java.lang.reflect.Method;
import java.util.ArrayList;
import java.util.Arrays;
import java.util.HashMap;
import java.util.HashSet;
import java.util.List;
import java.util.Map;
import java.util.Random;
import java.util.Set;

/**
 * Many runs of random calls, the same ones each time, on Slickboom and on the Model of the document. No object
 * gets more than 512 calls, for the document promises nothing beyond: so short runs end with all questions that
 * there are, and long ones do without.
 */
public final class RandomRunsTest {
    private static final int SHORT_RUNS = 4000;
    private static final int SHORT_CALLS = 150;
    private static final int LONG_RUNS = 800;
    private static final int CALLS = 512;
    /** Calls that tell something come more often than those that merely ask. */
    private static final String[] NAMES = {
        "depth", "wind", "wind", "wind", "ship", "ship", "hole", "hole", "hole", "pump", "shipHas",
        "pass", "pass", "pass", "pass", "pass", "pass", "at", "boom", "boom", "boom", "skimmer", "skimmer",
        "team", "team", "move", "move", "carry", "carry", "teach", "clean", "clean", "clean", "meanIs", "meanIs",
        "use", "use", "use", "why", "why", "birds", "birds", "wash", "wash", "sign", "sign", "site",
        "deliver", "deliver", "waste", "claim", "layers", "due", "ahead", "nextAnew", "nextAnew", "sum", "shore",
    };
    private static final int[] EDGES = {Integer.MIN_VALUE, -2, -1, 0, 1, 3, 4, 9, 24, 100, 5001, 100001, Integer.MAX_VALUE};

    private static final Map<String, Method> SLICKBOOM = byName(Slickboom.class);
    private static final Map<String, Method> MODEL = byName(Model.class);
    /** Calls that answered, and those that threw: a run that never comes to one tests nothing of it. */
    private static final Set<String> SEEN = new HashSet<>();

    public static void main(String[] args) {
        for (int run = 0; run < SHORT_RUNS; run++) {
            run(run, 1 + run % SHORT_CALLS, true);
        }
        for (int run = SHORT_RUNS; run < SHORT_RUNS + LONG_RUNS; run++) {
            run(run, CALLS, false);
        }
        for (String name : NAMES) {
            Check.is("some " + name + " answered", SEEN.contains(name + " answered"), true);
            Check.is("some " + name + " threw", SEEN.contains(name + " threw"), true);
        }
        Check.end();
    }

    private static Map<String, Method> byName(Class<?> type) {
        Map<String, Method> methods = new HashMap<>();
        for (Method method : type.getDeclaredMethods()) {
            if (!method.isSynthetic() && Arrays.asList(NAMES).contains(method.getName())) {
                methods.put(method.getName(), method);
            }
        }
        return methods;
    }

    private static void run(int run, int many, boolean asksAll) {
        Random random = new Random(run);
        Slickboom x = new Slickboom();
        Model m = new Model();
        List<String> calls = new ArrayList<>();
        // most runs begin with a coast: else nearly no CELL would become a SHORE
        int coast = random.nextInt(14);
        int hours = random.nextInt(4) == 0 ? 48 : 6;
        for (int i = 0; i < many; i++) {
            String name = i < coast ? "shore" : i < coast + 3 ? "ship" : NAMES[random.nextInt(NAMES.length)];
            Object[] values = values(random, name, m, hours);
            calls.add(name + Arrays.toString(values));
            String got = answer(SLICKBOOM.get(name), x, values);
            String due = answer(MODEL.get(name), m, values);
            SEEN.add(name + (due.startsWith("throws") ? " threw" : " answered"));
            if (!got.equals(due)) {
                Check.is("run " + run + ", the last of " + calls, got, due);
                return;
            }
        }
        Check.is("run " + run + ", the state behind " + calls, !asksAll || isAlike(x, m), true);
    }

    /** Asks for every number of both, by some 360 calls. */
    private static boolean isAlike(Slickboom x, Model m) {
        boolean same = true;
        for (int cell = 0; cell < 24; cell++) {
            for (int what = 0; what <= 8; what++) {
                same &= x.at(cell, what) == m.at(cell, what);
            }
            same &= x.nextAnew(cell) == x.ahead(cell, 1);
        }
        for (int mean = 0; mean < m.means.size(); mean++) {
            for (int what = 0; what <= 3; what++) {
                same &= x.meanIs(mean, what) == m.meanIs(mean, what);
            }
        }
        int leaked = 0;
        for (int what = 0; what <= 11; what++) {
            int sum = x.sum(what);
            same &= sum == m.sum(what);
            leaked += what >= 3 ? sum : 0;
        }
        for (int ship = 0; ship < m.ships.size(); ship++) {
            same &= x.shipHas(ship) == m.shipHas(ship);
        }
        return same && x.waste(0) == m.waste(0) && x.waste(1) == m.waste(1) && leaked == m.sum(1);
    }

    private static String answer(Method method, Object on, Object[] values) {
        try {
            return String.valueOf(method.invoke(on, values));
        } catch (InvocationTargetException e) {
            return "throws " + e.getCause().getClass().getName();
        } catch (IllegalAccessException e) {
            throw new IllegalStateException(e);
        }
    }

    private static Object[] values(Random random, String name, Model m, int hours) {
        int[] most = bounds(name, m, hours);
        Object[] values = new Object[most.length];
        for (int i = 0; i < most.length; i++) {
            int value = random.nextInt(Math.max(1, most[i] + 1));
            if (random.nextInt(40) == 0) {
                value = EDGES[random.nextInt(EDGES.length)];
            } else if (random.nextInt(40) == 0) {
                value = most[i] + random.nextInt(3) - 1;
            }
            values[i] = value;
        }
        if (name.equals("team")) {
            values[1] = random.nextInt(3) > 0;
        }
        if (name.equals("claim") && random.nextBoolean()) {
            values[0] = 1 + random.nextInt(50);
        }
        return values;
    }

    /** About the highest value of each argument, so that most calls answer. */
    private static int[] bounds(String name, Model m, int hours) {
        int ship = m.ships.size() - 1;
        int mean = m.means.size() - 1;
        switch (name) {
            case "shore": return new int[] {23, 3};
            case "depth": return new int[] {23, 15};
            case "wind": return new int[] {3, 9};
            case "ship": return new int[] {23, 100000};
            case "hole": return new int[] {ship, 99};
            case "pump": return new int[] {ship, ship, 20000};
            case "shipHas": return new int[] {ship};
            case "pass": return new int[] {hours};
            case "at": return new int[] {23, 8};
            case "boom": return new int[] {23, 3, 9};
            case "skimmer": return new int[] {23, 500, 1500};
            case "team": return new int[] {50, 1};
            case "move": return new int[] {mean, 23};
            case "carry": return new int[] {mean};
            case "teach": return new int[] {mean};
            case "clean": return new int[] {mean, 23};
            case "meanIs": return new int[] {mean, 3};
            case "use": return new int[] {23, 1};
            case "why": return new int[] {23, 1, 2};
            case "birds": return new int[] {23, 100};
            case "wash": return new int[] {23, 30};
            case "sign": return new int[] {23, 2};
            case "site": return new int[] {1000, 1000};
            case "deliver": return new int[] {m.sites.size() - 1, 1, 300};
            case "waste": return new int[] {1};
            case "claim": return new int[] {1000000};
            case "layers": return new int[] {10000000, 10000000};
            case "due": return new int[] {m.claims.size() - 1, 1};
            case "ahead": return new int[] {23, 48};
            case "nextAnew": return new int[] {23};
            case "sum": return new int[] {11};
            default: throw new IllegalArgumentException(name);
        }
    }
}

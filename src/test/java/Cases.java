import java.lang.reflect.InvocationTargetException;
import java.lang.reflect.Method;
import java.lang.reflect.Modifier;
import java.util.Arrays;
import java.util.Comparator;
import java.util.List;

/** A test of cases: each of its methods is one, is named pNN_case for promise NN (or termsN_case), and stands by itself. */
abstract class Cases {
    private static final int MOST_SECONDS = 300;

    /** Gardens in which two ways go round a WALL: a . b, . # ., . . c. */
    static final String ROUND = "33a.b.#...c";
    /** Gardens of 6 by 6 through which there is one path alone: 0 to 5, 11, 17 to 12, 18, 24 to 29, 35. */
    static final String SNAKE = "66" + "......" + "#####." + "......" + ".#####" + "......" + "#####.";

    static void runAll(Class<?> test) throws IllegalAccessException {
        watch(test.getName());
        Check check = new Check(test.getName());
        List<Method> cases = casesOf(test);
        int broken = 0;
        for (Method one : cases) {
            int faults = check.faults();
            check.startCase(one.getName());
            try {
                one.invoke(null, check);
            } catch (InvocationTargetException e) {
                check.fault("threw " + e.getCause());
            }
            broken += check.faults() > faults ? 1 : 0;
        }
        System.out.println(test.getName() + ": " + cases.size() + " cases, " + broken + " of them broken");
        check.finish();
    }

    /** By their names; helpers of a test are private. */
    static List<Method> casesOf(Class<?> test) {
        List<Method> cases = Arrays.stream(test.getDeclaredMethods())
            .filter(method -> !Modifier.isPrivate(method.getModifiers()) && !method.getName().equals("main"))
            .sorted(Comparator.comparing(Method::getName)).toList();
        for (Method one : cases) {
            if (!one.getName().matches("(p\\d\\d|terms\\d)_\\w+")) {
                throw new IllegalArgumentException("no promise can be told from " + one.getName());
            }
        }
        return cases;
    }

    /** A call that never ends would hold up all else. */
    private static void watch(String test) {
        Thread watch = new Thread(() -> {
            try {
                Thread.sleep(1000L * MOST_SECONDS);
                System.out.println(test + ": not ended by " + MOST_SECONDS + " seconds");
                Runtime.getRuntime().halt(1);
            } catch (InterruptedException e) {
                Thread.currentThread().interrupt();
            }
        });
        watch.setDaemon(true);
        watch.start();
    }

    static PramGardens garden(String gardens, String prams) {
        return Check.garden(gardens, prams);
    }

    /** A new object with gardens, prams and THE RULE. */
    static PramGardens garden(String gardens, String prams, String rule) {
        return Check.withRule(Check.garden(gardens, prams), rule);
    }

    static PramGardens write(PramGardens g, String text) {
        return Check.write(g, text);
    }

    static PramGardens withRule(PramGardens g, String rule) {
        return Check.withRule(g, rule);
    }
}

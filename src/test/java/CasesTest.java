import java.lang.reflect.Method;
import java.util.Set;
import java.util.TreeSet;

/** That no promise is left without cases of its edges. */
public final class CasesTest {
    private static final Class<?>[] EDGES = {EdgesOfTermsTest.class, EdgesOfTextsTest.class, EdgesOfPushingTest.class
        , EdgesOfSeeingTest.class, EdgesOfViewsTest.class, EdgesOfLawsTest.class, EdgesOfGamesTest.class};

    public static void main(String[] args) {
        Check check = new Check("CasesTest");
        Set<String> told = new TreeSet<>();
        for (Class<?> test : EDGES) {
            for (Method one : Cases.casesOf(test)) {
                told.add(one.getName().substring(0, one.getName().indexOf('_')));
            }
        }
        for (int promise = 1; promise <= 48; promise++) {
            String name = String.format("p%02d", promise);
            check.startCase(name);
            check.is("cases of its own", told.contains(name), true);
        }
        check.finish();
    }
}

import java.lang.reflect.Method;
import java.lang.reflect.Modifier;
import java.util.Map;
import java.util.TreeMap;

/**
 * The document's boundaries: each method of the classes below is the test of one sentence and bears the number of
 * its promise (00 for what stands ahead of the promises). All are found by their names, so none can be forgotten.
 */
public final class EdgeTest {
    private static final int PROMISES = 24;
    private static final Class<?>[] EDGES = {
        TermEdges.class, DomeEdges.class, PeopleEdges.class, WouldBeEdges.class, TrialEdges.class, AllEdges.class};

    public static void main(String[] args) throws Exception {
        Map<String, Method> tests = new TreeMap<>();
        for (Class<?> edges : EDGES) {
            for (Method method : edges.getDeclaredMethods()) {
                if (method.getName().startsWith("promise") && Modifier.isStatic(method.getModifiers())) {
                    Bench.due.holds("one test alone is named " + method.getName(), tests.put(method.getName(), method) == null);
                }
            }
        }
        for (Map.Entry<String, Method> test : tests.entrySet()) {
            Bench.due.within(test.getKey());
            test.getValue().invoke(null);
        }
        Bench.due.within("EdgeTest");
        for (int promise = 0; promise <= PROMISES; promise++) {
            String start = String.format("promise%02d", promise);
            Bench.due.holds("a test of " + start, tests.keySet().stream().anyMatch(name -> name.startsWith(start)));
        }
        System.out.println("EdgeTest: " + tests.size() + " sentences");
        Bench.due.end("EdgeTest");
    }
}

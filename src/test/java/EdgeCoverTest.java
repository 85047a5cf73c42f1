import java.lang.reflect.Method;

/** Each promise has boundary tests of its own. */
public final class EdgeCoverTest {
    private static final Check CHECK = new Check("EdgeCoverTest");
    private static final Class<?>[] EDGES = {EdgeTextTest.class, EdgeTownTest.class, EdgeWayTest.class, EdgeDayTest.class,
        EdgeGameTest.class, EdgeWalkTest.class, EdgeChangeTest.class};

    public static void main(String[] args) {
        for (int promise = 1; promise <= 66; promise++) {
            CHECK.due("tests of promise " + promise, testsOf(promise) > 0 ? 1 : 0, 1);
        }
        CHECK.close();
    }

    private static int testsOf(int promise) {
        int sum = 0;
        for (Class<?> edges : EDGES) {
            for (Method method : edges.getDeclaredMethods()) {
                if (Check.isTest(method) && Integer.parseInt(method.getName().substring(1, 3)) == promise) sum++;
            }
        }
        return sum;
    }
}

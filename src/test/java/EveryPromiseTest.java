/** Each of the 54 promises has tests of its own, by their names. */
final class EveryPromiseTest {
    private static final int PROMISES = 54;

    private static final Class<?>[] TESTS = {Edges01To06Test.class, Edges07To17Test.class, Edges18To19Test.class,
        Edges20To30Test.class, Edges31To37Test.class, Edges38To47Test.class, Edges48To54Test.class};

    public static void main(String[] args) {
        Checks checks = new Checks();
        for (int i = 1; i <= PROMISES; i++) {
            String start = String.format("promise%02d_", i);
            int found = 0;
            for (Class<?> tests : TESTS) {
                for (String name : Cases.of(tests).keySet()) {
                    found += name.startsWith(start) ? 1 : 0;
                }
            }
            checks.due("tests of promise " + i, found > 0, true);
        }
        checks.end("EveryPromiseTest");
    }
}

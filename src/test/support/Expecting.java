/** What the tests that look at files and classes share: a tally of what does not hold. */
abstract class Expecting {
    private static int wrong = 0;

    static void expect(boolean holds, String what) {
        if (!holds) {
            wrong++;
            System.out.println(what);
        }
    }

    /** Says that all is well, or ends with 1. */
    static void end(String well) {
        System.out.println(wrong == 0 ? well : wrong + " things do not hold");
        if (wrong != 0) {
            System.exit(1);
        }
    }
}

/** Counts checks, tells the ones that fail, and ends a test program. */
final class Checks {
    private static final int MOST_TOLD = 40;

    private final String name;
    private int passed = 0;
    private int failed = 0;

    Checks(String name) {
        this.name = name;
    }

    void due(String call, long got, long want) {
        that(call + " answered " + got + ", due is " + want, got == want);
    }

    void that(String fault, boolean holds) {
        if (holds) {
            passed++;
            return;
        }
        failed++;
        if (failed <= MOST_TOLD) {
            System.out.println(name + ": " + fault);
        }
    }

    /** How many checks there were until now. */
    int count() {
        return passed + failed;
    }

    void end() {
        System.out.println(name + ": " + passed + " checks hold, " + failed + " do not");
        if (failed > 0 || passed == 0) {
            System.exit(1);
        }
    }
}

import java.util.function.LongSupplier;

/** Counts the checks of a suite, prints those that fail, and ends the suite. */
final class Checks {
    private final String suite;
    private int passed = 0;
    private int failed = 0;

    Checks(String suite) {
        this.suite = suite;
    }

    void due(String call, long got, long want) {
        if (got == want) {
            passed++;
        } else {
            failed++;
            System.out.println(suite + ": " + call + " answered " + got + ", due is " + want);
        }
    }

    void holds(String what, boolean stands) {
        due(what, stands ? 1 : 0, 1);
    }

    /** A call that is refused answers so, and changes nothing. */
    void refused(NightWater x, String call, LongSupplier made, long want) {
        long before = x.digest();
        due(call, made.getAsLong(), want);
        due("digest after " + call, x.digest(), before);
    }

    void finish() {
        System.out.println(suite + ": " + passed + " checks passed, " + failed + " failed");
        if (failed > 0 || passed == 0) {
            System.exit(1);
        }
    }
}

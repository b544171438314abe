import java.util.function.DoubleSupplier;
import java.util.function.LongSupplier;

/** What the project's tests share: it prints every answer that is not the one that is due, and counts them. */
final class Check {
    private static int wrong = 0;

    private Check() {
    }

    static void due(String call, long got, long want) {
        if (got != want) {
            wrong++;
            System.out.println(call + " answered " + got + ", due is " + want);
        }
    }

    static void due(String call, boolean got, boolean want) {
        due(call, got ? 1 : 0, want ? 1 : 0);
    }

    static void dueDouble(String call, DoubleSupplier got, double want) {
        double answer = got.getAsDouble();
        if (answer != want) {
            wrong++;
            System.out.println(call + " answered " + answer + ", due is " + want);
        }
    }

    static void fault(String text) {
        wrong++;
        System.out.println(text);
    }

    /** The call must throw just this exception and leave the pool as it was. */
    static void refused(HailPool pool, Class<? extends RuntimeException> due, String call, LongSupplier body) {
        long before = pool.digest();
        Class<?> thrown = null;
        try {
            body.getAsLong();
        } catch (RuntimeException e) {
            thrown = e.getClass();
            if (isOfMachine(e)) {
                fault(call + ": the machine threw " + e);
            }
        }
        if (thrown != due) {
            wrong++;
            System.out.println(call + " threw " + thrown + ", due is " + due);
        }
        due(call + " leaves the digest", pool.digest(), before);
    }

    /** The call must answer, whatever it answers. */
    static void allowed(String call, LongSupplier body) {
        try {
            body.getAsLong();
        } catch (RuntimeException e) {
            fault(call + " threw " + e + ", due is an answer");
        }
    }

    /** Whether HailPool did not throw this itself: it comes from the library, or bears the machine's own text. */
    static boolean isOfMachine(RuntimeException e) {
        StackTraceElement[] trace = e.getStackTrace();
        boolean isOfPool = trace.length > 0 && trace[0].getClassName().startsWith("HailPool");
        String text = String.valueOf(e.getMessage());
        return !isOfPool || text.startsWith("Index ") || text.startsWith("Cannot ");
    }

    /** The call may not change the pool. */
    static void unchanged(HailPool pool, String call, LongSupplier body, long want) {
        long before = pool.digest();
        due(call, body.getAsLong(), want);
        due(call + " leaves the digest", pool.digest(), before);
    }

    static void finish() {
        if (wrong != 0) {
            System.out.println(wrong + " answers are not as due");
            System.exit(1);
        }
    }
}

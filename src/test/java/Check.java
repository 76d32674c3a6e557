import java.util.function.BooleanSupplier;
import java.util.function.DoubleSupplier;
import java.util.function.IntSupplier;

/** Counts and prints what is not as due; the tests of this project share it. */
final class Check {
    static final Class<? extends RuntimeException> INDEX = IndexOutOfBoundsException.class;
    static final Class<? extends RuntimeException> ARGUMENT = IllegalArgumentException.class;
    static final Class<? extends RuntimeException> STATE = IllegalStateException.class;

    private static int wrong = 0;
    private static int looked = 0;
    private static String where = "";

    private Check() {
    }

    /** Tells which promise the checks that follow are about. */
    static void promise(int number) {
        where = "promise " + number;
    }

    static void about(String text) {
        where = text;
    }

    static void is(String call, long due, IntSupplier made) {
        String got;
        try {
            got = Long.toString(made.getAsInt());
        } catch (RuntimeException e) {
            got = "throws " + e.getClass().getSimpleName();
        }
        compare(call, Long.toString(due), got);
    }

    static void is(String call, boolean due, BooleanSupplier made) {
        String got;
        try {
            got = Boolean.toString(made.getAsBoolean());
        } catch (RuntimeException e) {
            got = "throws " + e.getClass().getSimpleName();
        }
        compare(call, Boolean.toString(due), got);
    }

    static void isDouble(String call, double due, DoubleSupplier made) {
        compare(call, Double.toString(due), Double.toString(made.getAsDouble()));
    }

    /** The very class is wanted: what the machine throws is of a class below it. */
    static void refuses(String call, Class<? extends RuntimeException> due, Runnable made) {
        String got = "no exception";
        try {
            made.run();
        } catch (RuntimeException e) {
            got = e.getClass().getSimpleName();
        }
        compare(call, due.getSimpleName(), got);
    }

    static void compare(String call, String due, String got) {
        looked++;
        if (!due.equals(got)) {
            wrong++;
            System.out.println(where + ": " + call + " gave " + got + ", due is " + due);
        }
    }

    static int looked() {
        return looked;
    }

    /** The last call of each test. */
    static void end() {
        System.out.println(looked + " looked at, " + wrong + " wrong");
        if (wrong != 0 || looked == 0) {
            System.exit(1);
        }
    }
}

import java.util.NoSuchElementException;

/** What the tests of edges share: towns to begin with, exceptions, and the checks by their short names. */
abstract class Edges {
    static final Class<IllegalArgumentException> ILLEGAL = IllegalArgumentException.class;
    static final Class<IndexOutOfBoundsException> NO_PLACE = IndexOutOfBoundsException.class;
    static final Class<NoSuchElementException> NOBODY = NoSuchElementException.class;

    static final String TWO = "places 2;street 0 1 5;";
    static final String ROW = Checks.ROW;
    static final String LONG_ROW = Checks.LONG_ROW;

    /** Twelve places in a row, five minutes apart. */
    static final String SHORT_STREETS = LONG_ROW.replace(" 60;", " 5;");

    private static Checks checks = new Checks("edges");

    static void begin(String name) {
        checks = new Checks(name);
    }

    static void end() {
        checks.end();
    }

    /** The document's words that must hold from here on, and the promise for which they are looked at. */
    static void says(int promise, String words) {
        checks.says(promise, words);
    }

    static void due(String call, long got, long want) {
        checks.due(call, got, want);
    }

    static void dueSame(String what, String got, String want) {
        checks.dueSame(what, got, want);
    }

    static void dueThrow(String call, Class<? extends RuntimeException> want, Checks.Call made) {
        checks.dueThrow(call, want, made);
    }

    static void dueNoThrow(String call, Checks.Call made) {
        checks.dueNoThrow(call, made);
    }

    static void dueBetween(String call, Class<? extends RuntimeException> want, int least, int most, Checks.CallOfOne made) {
        checks.dueBetween(call, want, least, most, made);
    }

    static void dueRefused(String call, Class<? extends RuntimeException> want, int[] arguments, Checks.CallOfOne made) {
        checks.dueRefused(call, want, arguments, made);
    }
}

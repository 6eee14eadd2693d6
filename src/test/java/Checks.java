import java.nio.charset.StandardCharsets;
import java.util.Arrays;

/** What the tests share: due answers, due exceptions, and towns fed as texts. */
final class Checks {
    interface Call {
        int answer();
    }

    private final String name;
    private int made = 0;
    private int wrong = 0;

    Checks(String name) {
        this.name = name;
    }

    void due(String call, long got, long want) {
        made++;
        if (got != want) {
            wrong++;
            System.out.println(name + ": " + call + " answered " + got + ", due is " + want);
        }
    }

    void dueThrow(String call, Class<? extends RuntimeException> want, Call made) {
        String got;
        try {
            got = "answered " + made.answer();
        } catch (RuntimeException e) {
            got = e.getClass() == want ? "" : "threw " + e.getClass().getSimpleName();
        }
        this.made++;
        if (!got.isEmpty()) {
            wrong++;
            System.out.println(name + ": " + call + " " + got + ", due is " + want.getSimpleName());
        }
    }

    boolean allRight() {
        return wrong == 0;
    }

    /** Prints the sum, and ends with exit code 1 if anything was wrong. */
    void end() {
        System.out.println(name + ": " + made + " answers looked at, " + wrong + " wrong");
        if (wrong != 0 || made == 0) {
            System.exit(1);
        }
    }

    static byte[] bytes(String text) {
        return text.getBytes(StandardCharsets.ISO_8859_1);
    }

    /** Feeds a text, with zero bytes behind it up to twenty's next multiple. */
    static void feed(LedStrangers x, String text) {
        byte[] bytes = Arrays.copyOf(bytes(text), (text.length() + 19) / 20 * 20);
        for (int i = 0; i < bytes.length; i += 20) {
            x.feed(number(bytes, i), number(bytes, i + 4), number(bytes, i + 8), number(bytes, i + 12),
                    number(bytes, i + 16));
        }
    }

    private static int number(byte[] bytes, int i) {
        return (bytes[i] & 255) << 24 | (bytes[i + 1] & 255) << 16 | (bytes[i + 2] & 255) << 8 | bytes[i + 3] & 255;
    }

    /** Feeds a text and makes it the town: what town() answers. */
    static int town(LedStrangers x, String text) {
        feed(x, text);
        return x.town(text.length());
    }

    static LedStrangers of(String text) {
        LedStrangers x = new LedStrangers();
        int answer = town(x, text);
        if (answer < 0) {
            throw new IllegalStateException("fault " + (answer + 10) + " at " + x.fault() + " in " + text);
        }
        return x;
    }
}

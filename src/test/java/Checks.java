import java.nio.charset.StandardCharsets;
import java.util.Arrays;
import java.util.List;

/** What the tests share: due answers, due exceptions, and towns fed as texts. */
final class Checks {
    interface Call {
        int answer();
    }

    interface CallOfOne {
        int answer(int argument);
    }

    /** Four places in a row, five minutes apart. */
    static final String ROW = "places 4;street 0 1 5;street 1 2 5;street 2 3 5;";

    /** Twelve places in a row, an hour apart: errands and strangers reach behind the last minute. */
    static final String LONG_ROW = "places 12;street 0 1 60;street 1 2 60;street 2 3 60;street 3 4 60;"
            + "street 4 5 60;street 5 6 60;street 6 7 60;street 7 8 60;street 8 9 60;street 9 10 60;street 10 11 60;";

    /** The calls of the promises 2 to 35, in their order. */
    private static final List<String> CALLS = List.of("feed", "town", "fault", "told", "far", "way", "person", "stranger",
            "tell", "day", "leads", "there", "lost", "fees", "judge", "match", "matched", "bound", "hand", "saves", "which",
            "where", "many", "corner", "other", "rest", "avoid", "learn", "soon", "seed", "mean", "image", "restore", "count");

    private final String name;
    private String about = "";
    private int made = 0;
    private int wrong = 0;

    Checks(String name) {
        this.name = name;
    }

    /** What is looked at from here on: a promise's number, and the document's words that must hold. */
    void says(int promise, String words) {
        about = "promise " + promise + " (\"" + words + "\"): ";
    }

    /** What is looked at from here on: the numbers of promises. */
    void about(String promises) {
        about = promises + ": ";
    }

    /** What is looked at from here on: the promise of a call, whose name comes first in it. */
    void aboutCall(String call) {
        about("promise " + (CALLS.indexOf(call.split(" ")[0]) + 2));
    }

    static String nameOfCall(int number) {
        return CALLS.get(number);
    }

    void due(String call, long got, long want) {
        made++;
        if (got != want) {
            tellWrong(call + " answered " + got + ", due is " + want);
        }
    }

    private void tellWrong(String what) {
        wrong++;
        System.out.println(name + ": " + about + what);
    }

    void dueThrow(String call, Class<? extends RuntimeException> want, Call made) {
        String got = outcome(made);
        this.made++;
        if (!got.equals(want.getSimpleName())) {
            tellWrong(call + ": " + got + ", due is " + want.getSimpleName());
        }
    }

    void dueNoThrow(String call, Call made) {
        String got = outcome(made);
        this.made++;
        if (!got.startsWith("answered")) {
            tellWrong(call + ": " + got + ", due is an answer");
        }
    }

    private static String outcome(Call made) {
        try {
            return "answered " + made.answer();
        } catch (RuntimeException e) {
            return e.getClass().getSimpleName();
        }
    }

    /** Taken from least to most; refused next to these, and far away from them. */
    void dueBetween(String call, Class<? extends RuntimeException> want, int least, int most, CallOfOne made) {
        for (int argument = least; argument <= most; argument++) {
            int taken = argument;
            dueNoThrow(call + " with " + taken, () -> made.answer(taken));
        }
        dueRefused(call, want, new int[] {least - 1, most + 1, least - 2, most + 2, Integer.MIN_VALUE, Integer.MAX_VALUE,
            most + 256, most + 65536}, made);
    }

    void dueRefused(String call, Class<? extends RuntimeException> want, int[] arguments, CallOfOne made) {
        for (int argument : arguments) {
            dueThrow(call + " with " + argument, want, () -> made.answer(argument));
        }
    }

    boolean allRight() {
        return wrong == 0;
    }

    /** Prints the sum, and ends with exit code 1 if anything was wrong. */
    void end() {
        System.out.println(name + ": " + made + " answers looked at, " + wrong + " wrong");
        if (wrong != 0 || made == 0) {
            System.exit(1);
        }
    }

    static byte[] bytes(String text) {
        return text.getBytes(StandardCharsets.ISO_8859_1);
    }

    /** Feeds a text, with zero bytes behind it up to twenty's next multiple. */
    static void feed(LedStrangers x, String text) {
        byte[] bytes = Arrays.copyOf(bytes(text), (text.length() + 19) / 20 * 20);
        for (int i = 0; i < bytes.length; i += 20) {
            x.feed(number(bytes, i), number(bytes, i + 4), number(bytes, i + 8), number(bytes, i + 12),
                    number(bytes, i + 16));
        }
    }

    private static int number(byte[] bytes, int i) {
        return (bytes[i] & 255) << 24 | (bytes[i + 1] & 255) << 16 | (bytes[i + 2] & 255) << 8 | bytes[i + 3] & 255;
    }

    /** Feeds a text and makes it the town: what town() answers. */
    static int town(LedStrangers x, String text) {
        feed(x, text);
        return x.town(text.length());
    }

    static LedStrangers of(String text) {
        LedStrangers x = new LedStrangers();
        int answer = town(x, text);
        if (answer < 0) {
            throw new IllegalStateException("fault " + (answer + 10) + " at " + x.fault() + " in " + text);
        }
        return x;
    }

    /** What a text tells, with a word and a number for each: to see that a call leaves all as it was. */
    static String state(LedStrangers x) {
        StringBuilder all = new StringBuilder();
        all.append("fault ").append(x.fault()).append(" images ").append(x.count(0)).append(" tape ").append(x.count(1));
        for (int what = 0; what < 5; what++) {
            all.append(" told ").append(x.told(what));
        }
        for (int to = 1; to < x.told(0); to++) {
            all.append(" far ").append(x.far(0, to)).append(" by ").append(x.way(0, to, 1));
        }
        for (int p = 0; p < x.told(1); p++) {
            for (int what = 0; what < 6; what++) {
                all.append(what == 0 ? " person " : " ").append(x.person(p, what));
            }
        }
        for (int s = 0; s < x.told(2); s++) {
            for (int what = 0; what < 5; what++) {
                all.append(what == 0 ? " stranger " : " ").append(x.stranger(s, what));
            }
            int told = x.tell(s, LedStrangers.NONE);
            x.tell(s, told);
            all.append(" told ").append(told);
        }
        for (int kind = 0; kind < 5; kind++) {
            all.append(" day ").append(x.day(kind, 0)).append(" ").append(x.day(kind, 2));
        }
        return all.toString();
    }

    /** What a town answers to all that can be asked of it, to see that two objects have the same town. */
    static String answers(LedStrangers x) {
        StringBuilder all = new StringBuilder(state(x));
        int strangers = x.told(2);
        int people = x.told(1);
        all.append(" match ").append(x.match(0)).append(' ').append(x.match(1)).append(" bound ").append(x.bound());
        for (int s = 0; s < strangers; s++) {
            all.append(" of ").append(s).append(' ').append(x.matched(s)).append(' ').append(x.hand(s, 1, 0));
            for (int kind = 0; kind < 4; kind++) {
                all.append(' ').append(x.leads(kind, s, 0)).append(' ').append(x.there(kind, s));
            }
        }
        for (int p = 0; p < people; p++) {
            all.append(" rest ").append(x.rest(p)).append(" avoid ").append(x.avoid(p));
        }
        for (int z = 0; z < x.told(0); z++) {
            all.append(" saves ").append(x.saves(z));
        }
        all.append(" where ").append(x.where(1, 0)).append(" many ").append(x.many(0, 1)).append(" law ").append(x.corner(1));
        all.append(" learn ").append(x.learn(2)).append(" soon ").append(x.soon()).append(" seed ").append(x.seed(0, 1, 2));
        return all.toString();
    }

    void dueSame(String what, String got, String want) {
        made++;
        if (!got.equals(want)) {
            tellWrong(what + ": [" + got + "], due is [" + want + "]");
        }
    }
}

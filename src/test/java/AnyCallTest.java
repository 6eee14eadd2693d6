import java.util.Arrays;
import java.util.List;
import java.util.NoSuchElementException;
import java.util.Random;

/**
 * Any calls with any arguments: only the document's exceptions come out, and neither asking nor a refused call changes
 * anything.
 */
public final class AnyCallTest {
    private static final Checks CHECKS = new Checks("any call");
    private static final Random LOTS = new Random(35);
    private static final int CALLS = 34;
    private static final List<String> STATE_CHANGING = List.of("feed", "town", "tell", "image", "restore");
    private static final int[] ODD = {0, 1, -1, 2, 3, 4, 5, 7, 8, 9, 10, 11, 12, 99, 100, 600, -2, Integer.MAX_VALUE,
        Integer.MIN_VALUE};
    private static final String[] TEXTS = {"", "law 1;", "law 1;oops",
        "places 2;street 0 1 60;person 1 0 500 99;stranger 0 1 500;chance 0 1;law 9;",
        "places 4;street 0 1 5;street 1 2 5;street 2 3 5;person 0 2 0 2;stranger 1 3 3;finds 0 2;guide 1 1;",
        "places 12;person 0 1 0 1;stranger 0 11 0;guide 0 9;guide 0 9;guide 0 9;guide 0 9;",
        "places 3;street 0 1 4;street 1 2 6;person 0 2 0 3;person 2 0 0 1;not 1 2;stranger 1 2 0;guide 1 2;law 1;",
        "stranger 0 1 0;stranger 0 1 0;stranger 0 1 0;stranger 0 1 0;stranger 0 1 0;stranger 0 1 0;stranger 0 1 0;"
            + "stranger 0 1 0;street 0 1 9;person 0 1 0 1;person 0 1 0 1;person 0 1 0 1;person 0 1 0 1;person 0 1 0 1;"
            + "person 0 1 0 1;person 0 1 0 1;person 0 1 0 1;person 0 1 0 1;person 0 1 0 1;"};

    public static void main(String[] args) {
        for (int run = 0; run < 1700 && CHECKS.allRight(); run++) {
            goThrough(run);
        }
        CHECKS.end();
    }

    /** One object is asked all; the other one hears only what changes something: both must answer alike. */
    private static void goThrough(int run) {
        LedStrangers asked = new LedStrangers();
        LedStrangers changed = new LedStrangers();
        for (int i = 0; i < 60; i++) {
            int call = LOTS.nextInt(CALLS + 3);
            if (call >= CALLS) {
                CHECKS.about("promise 3");
                String text = TEXTS[LOTS.nextInt(TEXTS.length)];
                asked.town(0);
                changed.town(0);
                CHECKS.due("run " + run + ": town", Checks.town(asked, text), Checks.town(changed, text));
                continue;
            }
            int[] a = {odd(), odd(), odd(), odd(), odd()};
            String name = Checks.nameOfCall(call);
            CHECKS.aboutCall(name);
            String told = "run " + run + ": " + name + " " + Arrays.toString(a);
            String got = answer(asked, call, a);
            CHECKS.due(told + ": " + got, got.startsWith("!") ? 1 : 0, 0);
            if (changesState(call) && !isRefused(call, got)) {
                CHECKS.dueSame(told + " beside one who was not asked", got, answer(changed, call, a));
            } else {
                CHECKS.dueSame(told + " twice", answer(asked, call, a), got);
            }
        }
        CHECKS.about("promises 1 to 35");
        CHECKS.dueSame("run " + run + ": beside one who was not asked", Checks.state(asked), Checks.state(changed));
    }

    private static int odd() {
        return LOTS.nextInt(3) == 0 ? LOTS.nextInt(3) : ODD[LOTS.nextInt(ODD.length)];
    }

    private static boolean changesState(int call) {
        return STATE_CHANGING.contains(Checks.nameOfCall(call));
    }

    /** A call that throws does nothing; nor does a feed(), image() or restore() that answers -1. */
    private static boolean isRefused(int call, String got) {
        String name = Checks.nameOfCall(call);
        return got.endsWith("Exception") || got.equals("-1") && !name.equals("tell") && !name.equals("town");
    }

    /** The answer as a text; with a "!" ahead, if what is thrown is none of the document's. */
    private static String answer(LedStrangers x, int call, int[] a) {
        try {
            return "" + made(x, call, a);
        } catch (RuntimeException e) {
            Class<?> c = e.getClass();
            boolean isNamed = c == IllegalArgumentException.class || c == IndexOutOfBoundsException.class
                    || c == NoSuchElementException.class;
            boolean isThrown = e.getStackTrace()[0].getClassName().equals("LedStrangers");
            return (isNamed && isThrown ? "" : "!") + c.getSimpleName();
        }
    }

    private static int made(LedStrangers x, int call, int[] a) {
        switch (call) {
            case 0: return x.feed(a[0], a[1], a[2], a[3], a[4]);
            case 1: return x.town(a[0]);
            case 2: return x.fault();
            case 3: return x.told(a[0]);
            case 4: return x.far(a[0], a[1]);
            case 5: return x.way(a[0], a[1], a[2]);
            case 6: return x.person(a[0], a[1]);
            case 7: return x.stranger(a[0], a[1]);
            case 8: return x.tell(a[0], a[1]);
            case 9: return x.day(a[0], a[1]);
            case 10: return x.leads(a[0], a[1], a[2]);
            case 11: return x.there(a[0], a[1]);
            case 12: return x.lost(a[0], a[1]);
            case 13: return x.fees(a[0]);
            case 14: return x.judge(a[0]);
            case 15: return x.match(a[0]);
            case 16: return x.matched(a[0]);
            case 17: return x.bound();
            case 18: return x.hand(a[0], a[1], a[2]);
            case 19: return x.saves(a[0]);
            case 20: return x.which();
            case 21: return x.where(a[0], a[1]);
            case 22: return x.many(a[0], a[1]);
            case 23: return x.corner(a[0]);
            case 24: return x.other();
            case 25: return x.rest(a[0]);
            case 26: return x.avoid(a[0]);
            case 27: return x.learn(a[0]);
            case 28: return x.soon();
            case 29: return x.seed(a[0], a[1], a[2]);
            case 30: return x.mean(a[0], a[1]);
            case 31: return x.image();
            case 32: return x.restore();
            default: return x.count(a[0]);
        }
    }
}

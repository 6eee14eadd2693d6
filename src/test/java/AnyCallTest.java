import java.util.NoSuchElementException;
import java.util.Random;

/** Any calls with any arguments: only the document's exceptions come out, and asking changes nothing. */
public final class AnyCallTest {
    private static final Checks CHECKS = new Checks("any call");
    private static final Random LOTS = new Random(35);
    private static final int CALLS = 34;
    private static final int[] ODD = {0, 1, -1, 2, 3, 4, 5, 7, 8, 9, 10, 11, 12, 99, 100, 600, -2, Integer.MAX_VALUE,
        Integer.MIN_VALUE};
    private static final String[] TEXTS = {"", "law 1;", "law 1;oops",
        "places 2;street 0 1 60;person 1 0 500 99;stranger 0 1 500;chance 0 1;law 9;",
        "places 4;street 0 1 5;street 1 2 5;street 2 3 5;person 0 2 0 2;stranger 1 3 3;finds 0 2;guide 1 1;",
        "places 12;person 0 1 0 1;stranger 0 11 0;guide 0 9;guide 0 9;guide 0 9;guide 0 9;",
        "places 3;street 0 1 4;street 1 2 6;person 0 2 0 3;person 2 0 0 1;not 1 2;stranger 1 2 0;guide 1 2;law 1;",
        "stranger 0 1 0;stranger 0 1 0;stranger 0 1 0;stranger 0 1 0;stranger 0 1 0;stranger 0 1 0;stranger 0 1 0;"
            + "stranger 0 1 0;street 0 1 9;person 0 1 0 1;person 0 1 0 1;person 0 1 0 1;person 0 1 0 1;person 0 1 0 1;"
            + "person 0 1 0 1;person 0 1 0 1;person 0 1 0 1;person 0 1 0 1;person 0 1 0 1;"};

    public static void main(String[] args) {
        for (int run = 0; run < 200 && CHECKS.allRight(); run++) {
            goThrough(run);
        }
        CHECKS.end();
    }

    private static void goThrough(int run) {
        LedStrangers asked = new LedStrangers();
        LedStrangers changed = new LedStrangers();
        for (int i = 0; i < 500; i++) {
            int call = LOTS.nextInt(CALLS + 3);
            if (call >= CALLS) {
                String text = TEXTS[LOTS.nextInt(TEXTS.length)];
                asked.town(0);
                changed.town(0);
                CHECKS.due("run " + run + ": town", Checks.town(asked, text), Checks.town(changed, text));
                continue;
            }
            int[] a = {odd(), odd(), odd(), odd(), odd()};
            String got = answer(asked, call, a);
            CHECKS.due("run " + run + ": call " + call + " " + a[0] + " " + a[1] + " " + a[2] + ": " + got,
                    got.startsWith("!") ? 1 : 0, 0);
            if (changesState(call)) {
                String same = answer(changed, call, a);
                CHECKS.due("run " + run + ": call " + call + " answered " + got + ", without asking " + same,
                        got.equals(same) ? 1 : 0, 1);
            } else {
                CHECKS.due("run " + run + ": call " + call + " twice", got.equals(answer(asked, call, a)) ? 1 : 0, 1);
            }
        }
    }

    private static int odd() {
        return LOTS.nextInt(3) == 0 ? LOTS.nextInt(3) : ODD[LOTS.nextInt(ODD.length)];
    }

    private static boolean changesState(int call) {
        return call <= 4;
    }

    /** The answer as a text; with a "!" ahead, if what is thrown is none of the document's. */
    private static String answer(LedStrangers x, int call, int[] a) {
        try {
            return "" + made(x, call, a);
        } catch (RuntimeException e) {
            Class<?> c = e.getClass();
            boolean isNamed = c == IllegalArgumentException.class || c == IndexOutOfBoundsException.class
                    || c == NoSuchElementException.class;
            boolean isThrown = e.getStackTrace()[0].getClassName().equals("LedStrangers");
            return (isNamed && isThrown ? "" : "!") + c.getSimpleName();
        }
    }

    private static int made(LedStrangers x, int call, int[] a) {
        switch (call) {
            case 0: return x.feed(a[0], a[1], a[2], a[3], a[4]);
            case 1: return x.town(a[0]);
            case 2: return x.tell(a[0], a[1]);
            case 3: return x.image();
            case 4: return x.restore();
            case 5: return x.fault();
            case 6: return x.told(a[0]);
            case 7: return x.far(a[0], a[1]);
            case 8: return x.way(a[0], a[1], a[2]);
            case 9: return x.person(a[0], a[1]);
            case 10: return x.stranger(a[0], a[1]);
            case 11: return x.day(a[0], a[1]);
            case 12: return x.leads(a[0], a[1], a[2]);
            case 13: return x.there(a[0], a[1]);
            case 14: return x.lost(a[0], a[1]);
            case 15: return x.fees(a[0]);
            case 16: return x.judge(a[0]);
            case 17: return x.match(a[0]);
            case 18: return x.matched(a[0]);
            case 19: return x.bound();
            case 20: return x.hand(a[0], a[1], a[2]);
            case 21: return x.saves(a[0]);
            case 22: return x.which();
            case 23: return x.where(a[0], a[1]);
            case 24: return x.many(a[0], a[1]);
            case 25: return x.corner(a[0]);
            case 26: return x.other();
            case 27: return x.rest(a[0]);
            case 28: return x.avoid(a[0]);
            case 29: return x.learn(a[0]);
            case 30: return x.soon();
            case 31: return x.seed(a[0], a[1], a[2]);
            case 32: return x.mean(a[0], a[1]);
            default: return x.count(a[0]);
        }
    }
}

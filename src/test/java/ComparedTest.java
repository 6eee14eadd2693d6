import java.util.ArrayList;
import java.util.Arrays;
import java.util.List;
import java.util.Random;

/** Many towns made by lots: each answer of the class against the plain town's. */
public final class ComparedTest {
    private static final Checks CHECKS = new Checks("compared");
    private static final Random LOTS = new Random(20261118);

    /** The document promises nothing behind these. */
    private static final int MOST_CALLS = 512;

    private static LedStrangers used = new LedStrangers();
    private static int calls = 0;
    private static String usedText = "";
    private static final int[] TOLD = new int[8];

    public static void main(String[] args) {
        for (int i = 0; i < 900 && CHECKS.allRight(); i++) {
            compareTown(townText(i % 7), i % 10);
        }
        compareFaults(40000);
        CHECKS.end();
    }

    // ---- towns by lots

    /** Styles: 0 to 3 small; 4 far and late; 5 large; 6 crowded, with a short law. */
    private static String townText(int style) {
        int places = style == 5 ? 8 + LOTS.nextInt(5) : style == 4 ? 6 + LOTS.nextInt(7) : 2 + LOTS.nextInt(6);
        int people = style == 5 ? 6 + LOTS.nextInt(5) : LOTS.nextInt(7);
        int strangers = style == 5 ? 3 + LOTS.nextInt(4) : LOTS.nextInt(6);
        int latest = style == 4 ? 501 : style == 6 ? 2 : 5 + LOTS.nextInt(40);
        int longest = style == 4 ? 60 : 1 + LOTS.nextInt(9);
        int shortest = style == 4 ? 45 : 1;
        List<String> clauses = new ArrayList<>();
        for (int i = 0; i < Math.min(20, places - 1 + LOTS.nextInt(places + 3)); i++) {
            int a = i < places - 1 && LOTS.nextInt(20) > 0 ? i + 1 : LOTS.nextInt(places);
            int b = style == 4 && a > 0 ? a - 1 : otherThan(a, places);
            clauses.add("street " + a + " " + b + " " + (shortest + LOTS.nextInt(longest - shortest + 1)));
        }
        for (int i = 0; i < people; i++) {
            int p = LOTS.nextInt(style == 6 ? 2 : places);
            clauses.add("person " + p + " " + otherThan(p, places) + " " + minute(latest) + " " + (1 + LOTS.nextInt(9)));
        }
        for (int i = 0; i < strangers; i++) {
            int x = LOTS.nextInt(style == 6 ? 2 : places);
            clauses.add("stranger " + x + " " + otherThan(x, places) + " " + minute(latest));
        }
        for (int i = LOTS.nextInt(3); i > 0; i--) {
            clauses.add("guide " + LOTS.nextInt(places) + " " + LOTS.nextInt(10));
        }
        for (int i = LOTS.nextInt(3); i > 0; i--) {
            int x = LOTS.nextInt(places);
            clauses.add("sign " + x + " " + otherThan(x, places));
        }
        for (int i = LOTS.nextInt(8); i > 0 && people > 0; i--) {
            clauses.add("not " + LOTS.nextInt(people) + " " + LOTS.nextInt(places));
        }
        for (int i = LOTS.nextInt(6); i > 0 && strangers > 0; i--) {
            clauses.add("finds " + LOTS.nextInt(strangers) + " " + LOTS.nextInt(places));
        }
        for (int i = LOTS.nextInt(4); i > 0 && strangers > 0; i--) {
            clauses.add("chance " + LOTS.nextInt(strangers) + " " + (1 + LOTS.nextInt(8)));
        }
        if (style == 6 || LOTS.nextBoolean()) {
            clauses.add("law " + (style == 6 ? 1 : LOTS.nextInt(4)));
        }
        return fitting("places " + places + ";", clauses);
    }

    private static String fitting(String start, List<String> clauses) {
        StringBuilder text = new StringBuilder(start);
        int count = 1;
        for (String clause : clauses) {
            // What is told ahead must stay, so the text ends where the room does.
            if (text.length() + clause.length() + 1 > 600 || count >= 60) {
                break;
            }
            text.append(clause).append(';');
            count++;
        }
        return text.toString();
    }

    private static int otherThan(int place, int places) {
        return (place + 1 + LOTS.nextInt(places - 1)) % places;
    }

    private static int minute(int latest) {
        return latest > 500 && LOTS.nextBoolean() ? 400 + LOTS.nextInt(101) : LOTS.nextInt(latest);
    }

    // ---- all answers

    /** The object for one call more: when it has had its calls, a new one that has been told the same. */
    private static LedStrangers x() {
        if (calls >= MOST_CALLS) {
            int[] pairs = TOLD.clone();
            readTown(usedText);
            for (int s = 0; s < pairs.length; s++) {
                if (pairs[s] >= 0) {
                    tell(s, pairs[s]);
                }
            }
        }
        calls++;
        return used;
    }

    private static int readTown(String text) {
        int callsOfText = (text.length() + 19) / 20 + 1;
        if (calls + callsOfText > MOST_CALLS) {
            used = new LedStrangers();
            calls = 0;
        }
        calls += callsOfText;
        usedText = text;
        Arrays.fill(TOLD, -1);
        return Checks.town(used, text);
    }

    private static int tell(int s, int person) {
        int before = x().tell(s, person);
        TOLD[s] = person;
        return before;
    }

    /** An object reads one town behind the other, as long as it has calls left. */
    private static void compareTown(String text, int fee) {
        PlainTown plain = PlainTown.read(Checks.bytes(text), text.length());
        due(text, "town", readTown(text), plain.faultKind == 0 ? plain.people.size() : plain.faultKind - 10);
        if (plain.faultKind != 0) {
            throw new IllegalStateException("fault in " + text);
        }
        compareWays(plain, text);
        for (int s = 0; s < plain.strangers.size() && !plain.people.isEmpty(); s++) {
            int told = LOTS.nextInt(4) == 0 ? -1 : bestGuess(plain, s);
            due(text, "tell " + s + " " + told, tell(s, told), -1);
        }
        for (int kind = 0; kind < 5; kind++) {
            compareDay(plain, kind, text);
        }
        comparePairs(plain, text);
        compareOtherTowns(plain, text, fee);
        compareLearning(plain, text);
        compareLots(plain, text);
    }

    /** A told person who can lead a stranger, if there is one, so that days by told pairs are not empty. */
    private static int bestGuess(PlainTown plain, int s) {
        int start = LOTS.nextInt(plain.people.size());
        for (int i = 0; i < plain.people.size(); i++) {
            int k = (start + i) % plain.people.size();
            PlainTown.Person p = plain.people.get(k);
            if (plain.way(p.p, p.q).contains(plain.strangers.get(s).x)) {
                return k;
            }
        }
        return start;
    }

    private static void compareWays(PlainTown plain, String text) {
        due(text, "told 0", x().told(0), plain.places);
        due(text, "told 1", x().told(1), plain.people.size());
        due(text, "told 2", x().told(2), plain.strangers.size());
        due(text, "told 3", x().told(3), plain.guides.size());
        due(text, "told 4", x().told(4), plain.law);
        for (int a = 0; a < plain.places; a++) {
            for (int b = 0; b < plain.places; b++) {
                due(text, "far " + a + " " + b, x().far(a, b), plain.far(a, b));
                List<Integer> way = plain.way(a, b);
                for (int i = -1; i <= way.size() + 1; i++) {
                    int want = i >= 0 && i < way.size() ? way.get(i) : -1;
                    due(text, "way " + a + " " + b + " " + i, x().way(a, b, i), want);
                }
            }
        }
        for (int k = 0; k < plain.people.size(); k++) {
            PlainTown.Person p = plain.people.get(k);
            int far = plain.far(p.p, p.q);
            int[] want = {p.p, p.q, p.t, p.v, bits(p.knows), far < 0 ? -1 : p.t + far};
            for (int what = 0; what < 6; what++) {
                due(text, "person " + k + " " + what, x().person(k, what), want[what]);
            }
            due(text, "avoid " + k, x().avoid(k), plain.avoid(k));
        }
        for (int k = 0; k < plain.strangers.size(); k++) {
            PlainTown.Stranger s = plain.strangers.get(k);
            int[] want = {s.x, s.y, s.t, s.c, bits(s.finds)};
            for (int what = 0; what < 5; what++) {
                due(text, "stranger " + k + " " + what, x().stranger(k, what), want[what]);
            }
        }
    }

    private static int bits(boolean[] row) {
        int bits = 0;
        for (int i = 0; i < row.length; i++) {
            bits |= row[i] ? 1 << i : 0;
        }
        return bits;
    }

    private static void compareDay(PlainTown plain, int kind, String text) {
        PlainTown.Day day = plain.new Day(kind);
        day.told = TOLD.clone();
        day.run();
        int[] want = {day.cost(), day.left(), day.waited, day.led, day.thereInTime()};
        for (int what = 0; what < 5; what++) {
            due(text, "day " + kind + " " + what, x().day(kind, what), want[what]);
        }
        due(text, "fees " + kind, x().fees(kind), day.fees);
        for (int k = 0; k < plain.people.size(); k++) {
            due(text, "lost " + kind + " " + k, x().lost(kind, k), day.lost(k));
        }
        int firstLeft = -1;
        int firstNotLed = -1;
        for (int s = plain.strangers.size() - 1; s >= 0; s--) {
            List<Integer> leaders = day.leaders.get(s);
            due(text, "there " + kind + " " + s, x().there(kind, s), day.there[s]);
            for (int i = -1; i <= leaders.size(); i++) {
                int leader = i >= 0 && i < leaders.size() ? leaders.get(i) : -1;
                due(text, "leads " + kind + " " + s + " " + i, x().leads(kind, s, i), leader);
            }
            firstLeft = day.there[s] < 0 ? s : firstLeft;
            firstNotLed = TOLD[s] >= 0 && !leaders.contains(TOLD[s]) ? s : firstNotLed;
        }
        if (kind == 4) {
            due(text, "judge 0", x().judge(0), firstLeft);
            due(text, "judge 1", x().judge(1), firstNotLed);
        }
    }

    private static void comparePairs(PlainTown plain, String text) {
        plain.findPairs();
        due(text, "match 0", x().match(0), plain.pairsLed());
        due(text, "match 1", x().match(1), plain.pairsLost());
        due(text, "bound", x().bound(), plain.bound());
        for (int s = 0; s < plain.strangers.size(); s++) {
            due(text, "matched " + s, x().matched(s), plain.bestPairs[s]);
            for (int h = 0; h <= 2; h++) {
                int[] best = plain.hand(s, h);
                due(text, "hand " + s + " " + h + " 0", x().hand(s, h, 0), best == null ? -1 : best[0]);
                due(text, "hand " + s + " " + h + " 1", x().hand(s, h, 1), best == null ? -1 : best[1]);
            }
        }
    }

    private static void compareOtherTowns(PlainTown plain, String text, int fee) {
        PlainTown.Day usual = plain.new Day(0).run();
        int sign = 0;
        int guide = 0;
        int[] most = {usual.cost(), Integer.MAX_VALUE, Integer.MAX_VALUE};
        for (int a = 0; a < plain.places; a++) {
            due(text, "saves " + a, x().saves(a), usual.cost() - plain.costWithSign(a));
            sign = plain.costWithSign(a) < plain.costWithSign(sign) ? a : sign;
            guide = plain.costWithGuides(fee, a) < plain.costWithGuides(fee, guide) ? a : guide;
            most[1] = Math.min(most[1], plain.costWithGuides(fee, a));
            for (int b = 0; b < plain.places; b++) {
                most[2] = Math.min(most[2], plain.costWithGuides(fee, a, b));
            }
        }
        int least = Math.min(most[0], Math.min(most[1], most[2]));
        due(text, "which", x().which(), sign);
        due(text, "where " + fee + " 0", x().where(fee, 0), guide);
        due(text, "where " + fee + " 1", x().where(fee, 1), plain.costWithGuides(fee, guide));
        due(text, "many " + fee + " 0", x().many(fee, 0), most[0] == least ? 0 : most[1] == least ? 1 : 2);
        due(text, "many " + fee + " 1", x().many(fee, 1), least);
        int law = 0;
        for (int l = 0; l <= 9; l++) {
            due(text, "corner " + l, x().corner(l), plain.costWithLaw(l));
            law = plain.costWithLaw(l) < plain.costWithLaw(law) ? l : law;
        }
        due(text, "other", x().other(), law);
        for (int k = 0; k < plain.people.size(); k++) {
            due(text, "rest " + k, x().rest(k), usual.cost() - usual.lost(k) - plain.othersWithout(k));
        }
    }

    private static void compareLearning(PlainTown plain, String text) {
        plain.learnAll();
        for (int days : new int[] {0, 1, 2, 3, 5, 9, 20, 99}) {
            due(text, "learn " + days, x().learn(days), plain.learned.get(days));
        }
        due(text, "soon", x().soon(), plain.soon);
    }

    private static void compareLots(PlainTown plain, String text) {
        for (int kind = 0; kind < 5; kind++) {
            int seed = LOTS.nextInt();
            PlainTown.Day day = plain.byLots(kind, TOLD, seed);
            int come = 0;
            for (int s = 0; s < plain.strangers.size(); s++) {
                come += day.comes[s] ? 1 : 0;
            }
            due(text, "seed " + kind + " " + seed + " 0", x().seed(kind, seed, 0), day.cost());
            due(text, "seed " + kind + " " + seed + " 1", x().seed(kind, seed, 1), day.left());
            due(text, "seed " + kind + " " + seed + " 2", x().seed(kind, seed, 2), come);
        }
        int first = LOTS.nextBoolean() ? LOTS.nextInt() : Integer.MAX_VALUE - 3;
        int many = 1 + LOTS.nextInt(12);
        long sum = 0;
        for (int i = 0; i < many; i++) {
            sum += plain.byLots(0, TOLD, first + i).cost();
        }
        due(text, "mean " + first + " " + many, x().mean(first, many), sum / many);
    }

    // ---- texts with faults

    private static void compareFaults(int runs) {
        String signs = "  ;;0123456789aelst\u0000\u00e9A:-";
        for (int i = 0; i < runs && CHECKS.allRight(); i++) {
            StringBuilder text = new StringBuilder(i % 3 == 0 ? townText(i % 5) : clausesByLots());
            for (int k = LOTS.nextInt(3); k > 0 && text.length() > 0; k--) {
                int at = LOTS.nextInt(text.length());
                char sign = signs.charAt(LOTS.nextInt(signs.length()));
                switch (LOTS.nextInt(3)) {
                    case 0:
                        text.setCharAt(at, sign);
                        break;
                    case 1:
                        text.insert(at, sign);
                        break;
                    default:
                        text.deleteCharAt(at);
                        break;
                }
            }
            text.setLength(Math.min(text.length(), LOTS.nextInt(4) == 0 ? LOTS.nextInt(601) : 600));
            PlainTown plain = PlainTown.read(Checks.bytes(text.toString()), text.length());
            int want = plain.faultKind == 0 ? plain.people.size() : plain.faultKind - 10;
            due(text.toString(), "town", readTown(text.toString()), want);
            due(text.toString(), "fault", x().fault(), plain.faultPlace);
        }
    }

    private static String clausesByLots() {
        String[] shapes = {"law 3", "law3", "street 0 1 5", "person 0 1 7 9", "stranger 1 0 3", "guide 1 1", "sign 0 1",
            "not 0 1", "finds 0 1", "chance 0 4", "places 3", "street 1 3 60", "law 007"};
        StringBuilder text = new StringBuilder(LOTS.nextBoolean() ? "places 4;" : "");
        boolean isOfOne = LOTS.nextInt(3) == 0;
        int one = LOTS.nextInt(shapes.length);
        for (int k = LOTS.nextInt(75); k > 0 && text.length() < 590; k--) {
            int shape = isOfOne || LOTS.nextInt(8) == 0 ? one : LOTS.nextInt(7);
            text.append(LOTS.nextInt(6) == 0 ? " " : "").append(shapes[shape]).append(LOTS.nextInt(9) == 0 ? " ;" : ";");
        }
        return text.toString();
    }

    private static void due(String text, String call, long got, long want) {
        if (got != want) {
            CHECKS.aboutCall(call);
        }
        CHECKS.due(got == want ? "" : "[" + text + "] " + call, got, want);
    }
}

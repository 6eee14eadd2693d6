/** Promises 17 to 20: who should ask whom, and handing on: each sentence that has an edge, by itself. */
public final class PairEdgesTest extends Edges {
    private static final String FIVE = "places 5;street 0 1 5;street 1 2 5;street 2 3 5;street 3 4 5;";

    public static void main(String[] args) {
        begin("edges of pairs");
        promise17OneAtMost();
        promise17Lost();
        promise17WhoKnowsWithWays();
        promise17MostLed();
        promise17LeastLost();
        promise17AtOneTime();
        promise17Refused();
        promise18First();
        promise18NobodyLast();
        promise18AskedFirst();
        promise18Refused();
        promise19Bound();
        promise19NobodyCan();
        promise20Alone();
        promise20FromHisMinuteOn();
        promise20WhereHeIs();
        promise20AlongTheWay();
        promise20TimesHandedOn();
        promise20LeastLostThenLeastMinute();
        promise20NotLedThere();
        promise20EachByHimself();
        promise20Refused();
        end();
    }

    private static void dueMatch(LedStrangers x, int led, int lost, int... people) {
        due("match(0)", x.match(0), led);
        due("match(1)", x.match(1), lost);
        for (int s = 0; s < people.length; s++) {
            due("matched(" + s + ")", x.matched(s), people[s]);
        }
    }

    // ---- promises 17 to 19

    private static void promise17OneAtMost() {
        says(17, "MATCH: each STRANGER is led by one PERSON at most, each leads one at most");
        dueMatch(Checks.of(ROW + "person 0 3 0 1;stranger 0 1 0;stranger 1 2 0;"), 1, 0, 0, -1);
        dueMatch(Checks.of(ROW + "person 0 3 0 1;person 0 3 0 1;stranger 0 1 0;"), 1, 0, 0);
        dueMatch(Checks.of(ROW + "person 0 3 0 1;"), 0, 0);
        dueMatch(Checks.of(ROW + "stranger 0 3 0;"), 0, 0, -1);
        dueMatch(Checks.of(ROW + "person 0 3 0 1;".repeat(10) + "stranger 0 3 0;".repeat(8)), 8, 0, 0, 1, 2, 3, 4, 5, 6, 7);
        dueMatch(Checks.of(ROW + "person 0 3 0 1;".repeat(2) + "stranger 0 3 0;".repeat(8)), 2, 0, 0, 1, -1, -1, -1, -1, -1,
                -1);
    }

    private static void promise17Lost() {
        says(17, "who comes from P to X, then to Y, then to Q: LOST V times the minutes more than from P to Q");
        dueMatch(Checks.of(ROW + "person 0 3 0 9;stranger 1 2 0;"), 1, 0, 0);
        dueMatch(Checks.of(ROW + "person 1 2 0 9;stranger 3 0 0;"), 1, 9 * (10 + 15 + 10 - 5), 0);
        dueMatch(Checks.of(ROW + "person 1 2 0 9;stranger 0 3 0;"), 1, 9 * (5 + 15 + 5 - 5), 0);
        String most = LONG_ROW + "person 0 1 0 99;".repeat(8) + "stranger 11 0 0;".repeat(8);
        dueMatch(Checks.of(most), 8, 8 * 99 * (660 + 660 + 60 - 60), 0, 1, 2, 3, 4, 5, 6, 7);
    }

    private static void promise17WhoKnowsWithWays() {
        says(17, "(who knows Y, with all these WAYS)");
        dueMatch(Checks.of(ROW + "person 0 3 0 1;not 0 2;stranger 1 2 0;"), 0, 0, -1);
        dueMatch(Checks.of(ROW + "person 0 3 0 1;not 0 0;not 0 1;not 0 3;stranger 1 2 0;"), 1, 0, 0);
        String parts = "places 6;street 0 1 5;street 2 3 5;street 4 5 5;";
        dueMatch(Checks.of(parts + "person 0 1 0 1;stranger 2 3 0;"), 0, 0, -1);
        dueMatch(Checks.of(parts + "person 0 1 0 1;stranger 0 2 0;"), 0, 0, -1);
        dueMatch(Checks.of(parts + "person 0 2 0 1;stranger 0 1 0;"), 0, 0, -1);
        dueMatch(Checks.of(parts + "person 0 2 0 1;stranger 2 3 0;"), 0, 0, -1);
        dueMatch(Checks.of(parts + "person 2 3 0 1;person 0 1 0 1;stranger 0 1 0;stranger 3 2 0;"), 2, 10, 1, 0);
    }

    private static void promise17MostLed() {
        says(17, "most STRANGERS led, of these the least LOST");
        // Both for nothing by one PERSON would be the least, but two are led by two.
        dueMatch(Checks.of(ROW + "person 0 3 0 1;person 3 0 0 99;not 1 3;stranger 0 1 0;stranger 0 3 0;"), 2,
                99 * (15 + 5 + 5 - 15), 1, 0);
        // Three are led only if the first stranger does not take whom he would lose least by.
        dueMatch(Checks.of(ROW + "person 0 3 0 1;person 0 3 0 1;person 3 0 0 50;not 1 1;not 2 2;not 2 3;stranger 0 1 0;"
                + "stranger 1 2 0;stranger 2 3 0;"), 3, 50 * (15 + 5 + 5 - 15), 2, 0, 1);
    }

    private static void promise17LeastLost() {
        says(17, "of these the least LOST");
        dueMatch(Checks.of(ROW + "person 0 1 0 9;person 0 1 0 1;person 0 1 0 2;stranger 1 2 0;stranger 1 2 0;"), 2, 30, 1, 2);
        // The first stranger takes the cheap one alone; with the second he leaves him to the longer way.
        String two = ROW + "person 0 1 0 2;person 0 1 0 1;stranger 1 2 0;";
        dueMatch(Checks.of(two), 1, 10, 1);
        dueMatch(Checks.of(two + "stranger 1 3 0;"), 2, 2 * 10 + 20, 0, 1);
    }

    private static void promise17AtOneTime() {
        says(17, "MATCH: 0 how many are led, 1 LOST.");
        // At one time: neither minutes nor chances, signs, guides, laws or told pairs matter.
        LedStrangers x = Checks.of(ROW + "person 0 2 500 2;stranger 1 3 0;chance 0 1;sign 1 3;guide 1 0;law 1;finds 0 2;");
        x.tell(0, -1);
        dueMatch(x, 1, 2 * 10, 0);
        due("bound, too", x.bound(), 20);
    }

    private static void promise17Refused() {
        says(17, "`int match(int what) throws IllegalArgumentException`");
        LedStrangers x = Checks.of(ROW + "person 0 2 0 2;stranger 1 3 0;");
        dueBetween("match", ILLEGAL, 0, 1, x::match);
    }

    private static void promise18First() {
        says(18, "of these the first (STRANGER by STRANGER: the least PERSON, nobody last)");
        // All pairs of these cost the same together.
        dueMatch(Checks.of(ROW + "person 0 1 0 1;".repeat(3) + "stranger 1 2 0;stranger 1 2 0;"), 2, 20, 0, 1);
        // The eight cheapest of ten, the cheapest being the last.
        StringBuilder ten = new StringBuilder(ROW);
        for (int p = 0; p < 10; p++) {
            ten.append("person 0 1 0 ").append(20 - p).append(';');
        }
        ten.append("stranger 1 2 0;".repeat(8));
        dueMatch(Checks.of(ten.toString()), 8, 10 * (18 + 17 + 16 + 15 + 14 + 13 + 12 + 11), 2, 3, 4, 5, 6, 7, 8, 9);
        // The first STRANGER counts before the second: (0, 2) before (1, 0).
        dueMatch(Checks.of(ROW + "person 0 1 0 1;".repeat(3) + "not 1 3;stranger 1 2 0;stranger 1 3 0;"), 2, 10 + 20, 0, 2);
    }

    private static void promise18NobodyLast() {
        says(18, "Who leads a STRANGER by it; NONE.");
        dueMatch(Checks.of(ROW + "person 0 1 0 1;" + "stranger 1 2 0;".repeat(8)), 1, 10, 0, -1, -1, -1, -1, -1, -1, -1);
        // Whoever loses less leads the last: then nobody leads the first.
        dueMatch(Checks.of(ROW + "person 0 1 0 1;stranger 1 3 0;stranger 1 2 0;"), 1, 10, -1, 0);
        dueMatch(Checks.of(ROW + "person 0 1 0 1;stranger 1 3 0;stranger 3 2 0;"), 1, 20, 0, -1);
    }

    private static void promise18AskedFirst() {
        says(18, "Who leads a STRANGER by it; NONE.");
        LedStrangers x = Checks.of(ROW + "person 0 1 0 9;person 0 1 0 1;stranger 1 2 0;stranger 1 3 0;not 1 3;");
        due("matched(0), match() not having been asked", x.matched(0), 1);
        due("matched(1)", x.matched(1), 0);
        Checks.town(x, ROW + "person 0 1 0 9;person 0 1 0 10;stranger 1 2 0;");
        due("matched(0) in the next TOWN", x.matched(0), 0);
        StringBuilder ten = new StringBuilder(ROW + "person 0 1 0 1;".repeat(10) + "stranger 1 2 0;".repeat(8));
        for (int p = 0; p < 10; p++) {
            ten.append("not ").append(p).append(" 2;");
        }
        LedStrangers nobody = Checks.of(ten.toString());
        dueMatch(nobody, 0, 0, -1, -1, -1, -1, -1, -1, -1, -1);
        due("hand, nobody of ten", nobody.hand(7, 2, 0), -1);
        due("bound, nobody of ten", nobody.bound(), 0);
    }

    private static void promise18Refused() {
        says(18, "`int matched(int stranger) throws NoSuchElementException`");
        LedStrangers x = Checks.of("stranger 0 1 0;".repeat(8));
        dueBetween("matched", NOBODY, 0, 7, x::matched);
        LedStrangers none = Checks.of("person 0 1 0 1;");
        dueRefused("matched without any", NOBODY, new int[] {0, -1, 1}, none::matched);
    }

    private static void promise19Bound() {
        says(19, "BOUND: of each STRANGER the least that anybody loses by him");
        LedStrangers x = Checks.of(ROW + "person 0 1 0 9;person 0 1 0 1;" + "stranger 1 2 0;".repeat(8));
        due("one for all eight", x.bound(), 80);
        due("the match has two of them", x.match(1), 100);
        LedStrangers each = Checks.of(ROW + "person 0 1 0 1;person 3 2 0 1;stranger 1 0 0;stranger 2 3 0;");
        due("each another one", each.bound(), 10 + 10);
        due("nothing is lost", Checks.of(ROW + "person 0 3 0 99;stranger 0 3 0;").bound(), 0);
    }

    private static void promise19NobodyCan() {
        says(19, "(nothing, if nobody can), together.");
        due("nobody knows", Checks.of(ROW + "person 0 1 0 9;not 0 3;stranger 1 2 0;stranger 1 3 0;").bound(), 90);
        due("no PEOPLE", Checks.of(ROW + "stranger 1 2 0;").bound(), 0);
        due("no STRANGERS", Checks.of(ROW + "person 0 1 0 9;").bound(), 0);
        due("no WAY", Checks.of("person 0 1 0 9;stranger 0 1 0;").bound(), 0);
    }

    // ---- promise 20

    private static void dueHand(LedStrangers x, int h, int lost, int minute) {
        due("hand(0, " + h + ", 0)", x.hand(0, h, 0), lost);
        due("hand(0, " + h + ", 1)", x.hand(0, h, 1), minute);
    }

    private static void promise20Alone() {
        says(20, "HANDING on of one STRANGER, alone in the town (no signs, GUIDES, law)");
        LedStrangers x = Checks.of(FIVE + "person 0 1 0 1;stranger 0 4 0;stranger 0 4 0;sign 0 4;sign 1 4;guide 0 0;law 1;");
        dueHand(x, 0, 20 + 15 - 5, 20);
        dueHand(x, 2, 20 + 15 - 5, 20);
        due("another STRANGER by himself", x.hand(1, 0, 0), 30);
        LedStrangers guide = Checks.of(FIVE + "stranger 0 4 0;sign 0 4;guide 0 0;finds 0 1;");
        dueHand(guide, 2, -1, -1);
    }

    private static void promise20FromHisMinuteOn() {
        says(20, "he waits at X from T on");
        dueHand(Checks.of(FIVE + "person 0 4 10 1;stranger 1 4 15;"), 0, 0, 30);
        dueHand(Checks.of(FIVE + "person 0 4 10 1;stranger 1 4 14;"), 0, 0, 30);
        dueHand(Checks.of(FIVE + "person 0 4 10 1;stranger 1 4 16;"), 2, -1, -1);
        dueHand(Checks.of(FIVE + "person 0 4 0 1;stranger 0 4 0;"), 0, 0, 20);
        // Left at 2 in minute 10: who is there in minute 9 is gone, who is there in 10 leads on.
        dueHand(Checks.of(FIVE + "person 0 2 0 1;person 2 4 9 1;stranger 0 4 0;"), 1, 20, 20);
        dueHand(Checks.of(FIVE + "person 0 2 0 1;person 2 4 10 1;stranger 0 4 0;"), 1, 0, 20);
        dueHand(Checks.of(FIVE + "person 0 2 0 1;person 2 4 11 1;stranger 0 4 0;"), 1, 0, 21);
    }

    private static void promise20WhereHeIs() {
        says(20, "a PERSON who is where he is (by his own errand, not yet asked), knows Y, and has these WAYS");
        dueHand(Checks.of(FIVE + "person 1 4 0 1;stranger 0 4 0;"), 2, -1, -1);
        dueHand(Checks.of(FIVE + "person 4 0 0 1;stranger 0 4 20;"), 0, 40, 40);
        dueHand(Checks.of(FIVE + "person 4 0 0 1;stranger 0 4 21;"), 0, -1, -1);
        dueHand(Checks.of(FIVE + "person 0 4 0 1;not 0 4;stranger 0 4 0;"), 2, -1, -1);
        dueHand(Checks.of(FIVE + "person 0 4 0 1;not 0 0;not 0 1;not 0 2;not 0 3;stranger 0 4 0;"), 0, 0, 20);
        // Who does not know Y does not lead him a part of the WAY either.
        dueHand(Checks.of(FIVE + "person 0 2 0 1;not 0 4;person 2 4 10 1;stranger 0 4 0;"), 2, -1, -1);
        dueHand(Checks.of(FIVE + "person 0 2 0 1;person 2 4 10 1;not 1 4;stranger 0 4 0;"), 2, 20, 20);
        // By his own errand the second is at 1 in minute 19, at 0 in minute 24.
        dueHand(Checks.of(FIVE + "person 0 1 0 3;person 3 0 9 1;stranger 0 4 0;"), 0, 20 + 20, 44);
        dueHand(Checks.of(FIVE + "person 0 1 0 3;person 3 0 9 1;stranger 0 4 0;"), 1, 15 + 20 - 5, 34);
        dueHand(Checks.of("street 0 1 5;street 2 3 5;person 0 2 0 1;stranger 0 1 0;"), 2, -1, -1);
        dueHand(Checks.of("street 0 1 5;street 2 3 5;person 0 1 0 1;stranger 0 2 0;"), 2, -1, -1);
    }

    private static void promise20AlongTheWay() {
        says(20, "leads him to some PLACE along the WAY to there, and goes on to Q; then he waits there");
        // To 2 it is his own errand; past it he loses twice the minutes; at 3 nobody comes by.
        dueHand(Checks.of(FIVE + "person 0 2 0 5;person 2 4 30 1;stranger 0 4 0;"), 1, 0, 40);
        dueHand(Checks.of(FIVE + "person 0 2 0 5;person 3 4 30 1;stranger 0 4 0;"), 1, 5 * 10, 35);
        dueHand(Checks.of(FIVE + "person 0 2 0 5;person 1 4 30 1;stranger 0 4 0;"), 1, 0, 45);
    }

    private static void promise20TimesHandedOn() {
        says(20, "h times handed on at most (0 to 2); each PERSON once");
        LedStrangers x = Checks.of(FIVE + "person 0 1 0 1;person 1 2 5 1;person 2 3 10 1;person 3 4 15 1;stranger 0 4 0;");
        dueHand(x, 0, 30, 20);
        dueHand(x, 1, 20, 20);
        dueHand(x, 2, 10, 20);
        LedStrangers three = Checks.of(FIVE + "person 0 2 0 1;person 2 3 10 1;person 3 4 15 1;stranger 0 4 0;");
        dueHand(three, 2, 0, 20);
        LedStrangers one = Checks.of(FIVE + "person 0 1 0 1;stranger 0 4 0;");
        for (int h = 0; h <= 2; h++) {
            dueHand(one, h, 30, 20);
        }
    }

    private static void promise20LeastLostThenLeastMinute() {
        says(20, "the least LOST; of that the least MINUTE at which he is THERE.");
        dueHand(Checks.of(FIVE + "person 0 4 9 1;person 0 4 3 1;person 0 4 6 1;stranger 0 4 0;"), 0, 0, 23);
        dueHand(Checks.of(FIVE + "person 0 3 0 1;person 0 4 500 1;stranger 0 4 0;"), 0, 0, 520);
        String chain = FIVE + "person 0 4 50 1;person 0 2 0 1;person 2 4 10 1;stranger 0 4 0;";
        dueHand(Checks.of(chain), 0, 0, 70);
        dueHand(Checks.of(chain), 1, 0, 20);
        String later = FIVE + "person 0 4 5 1;person 0 2 0 1;person 2 4 30 1;stranger 0 4 0;";
        dueHand(Checks.of(later), 1, 0, 25);
        dueHand(Checks.of(LONG_ROW + "person 0 1 0 99;stranger 0 11 0;"), 2, 99 * 1200, 660);
    }

    private static void promise20NotLedThere() {
        says(20, "HANDING on: 0 LOST, 1 the MINUTE; NONE: he is not led there.");
        for (int h = 0; h <= 2; h++) {
            dueHand(Checks.of(FIVE + "stranger 0 4 0;"), h, -1, -1);
            dueHand(Checks.of(FIVE + "person 0 1 0 1;stranger 0 4 1;"), h, -1, -1);
            dueHand(Checks.of("person 0 1 0 1;stranger 0 1 0;"), h, -1, -1);
        }
    }

    private static void promise20EachByHimself() {
        says(20, "HANDING on of one STRANGER");
        LedStrangers x = Checks.of(FIVE + "person 0 4 0 1;person 0 1 3 9;stranger 0 4 0;stranger 0 4 1;stranger 0 4 4;");
        for (int i = 0; i < 2; i++) {
            due("the first", x.hand(0, 2, 0), 0);
            due("the second", x.hand(1, 2, 0), 9 * 30);
            due("the third", x.hand(2, 2, 0), -1);
            due("the first", x.hand(0, 2, 1), 20);
            due("the second", x.hand(1, 2, 1), 23);
            due("the third", x.hand(2, 2, 1), -1);
        }
    }

    private static void promise20Refused() {
        says(20, "IllegalArgumentException: h, what.");
        LedStrangers x = Checks.of(FIVE + "person 0 1 0 1;" + "stranger 0 4 0;".repeat(8));
        dueBetween("hand, h", ILLEGAL, 0, 2, h -> x.hand(0, h, 0));
        dueBetween("hand, what", ILLEGAL, 0, 1, what -> x.hand(0, 2, what));
        LedStrangers unled = Checks.of("stranger 0 1 0;");
        dueBetween("hand, h, of one who is not led", ILLEGAL, 0, 2, h -> unled.hand(0, h, 0));
        dueBetween("hand, what, of one who is not led", ILLEGAL, 0, 1, what -> unled.hand(0, 0, what));
        says(20, "`int hand(int stranger, int h, int what) throws NoSuchElementException, IllegalArgumentException`");
        dueBetween("hand, stranger", NOBODY, 0, 7, s -> x.hand(s, 0, 0));
        LedStrangers none = Checks.of("person 0 1 0 1;");
        dueThrow("hand without any", NOBODY, () -> none.hand(0, 0, 0));
    }
}

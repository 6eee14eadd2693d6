/** Promises 21 to 28: signs, guides, laws, people who rest, ways round: each sentence that has an edge, by itself. */
public final class OtherTownEdgesTest extends Edges {
    public static void main(String[] args) {
        begin("edges of other towns");
        promise21TellsAll();
        promise21AsByFirst();
        promise21HowMuchLess();
        promise21Refused();
        promise22Which();
        promise23Where();
        promise23BesideFour();
        promise23Refused();
        promise24Many();
        promise24AtOnePlace();
        promise24Fewest();
        promise24Refused();
        promise25Corner();
        promise25Refused();
        promise26Other();
        promise27Rest();
        promise27GuidesWithThem();
        promise27Refused();
        promise28Avoid();
        promise28ButBothEnds();
        promise28NoSuchWay();
        promise28Refused();
        townStays();
        end();
    }

    // ---- promises 21 and 22

    private static void promise21TellsAll() {
        says(21, "SAVES: a sign at a PLACE that tells all: by how much the COST is less");
        LedStrangers x = Checks.of(ROW + "person 0 2 0 2;person 0 2 0 3;stranger 1 3 5;stranger 1 0 5;");
        due("before", x.day(0, 0), 20 + 30);
        int[] saves = {0, 50, 0, 0};
        for (int z = 0; z < 4; z++) {
            due("saves(" + z + ")", x.saves(z), saves[z]);
        }
        LedStrangers told = Checks.of(ROW + "person 0 2 0 2;person 0 2 0 3;stranger 1 3 5;stranger 1 0 5;sign 1 3;");
        due("beside the signs that there are", told.saves(1), 20);
        LedStrangers last = Checks.of(LONG_ROW + "person 11 10 0 1;stranger 11 0 0;");
        due("at the last PLACE, telling the first", last.saves(11), 660 + 600 - 60);
        LedStrangers first = Checks.of(LONG_ROW + "person 0 1 0 1;stranger 0 11 0;");
        due("at the first PLACE, telling the last", first.saves(0), 660 + 600 - 60);
    }

    private static void promise21AsByFirst() {
        says(21, "Other towns, as by FIRST");
        LedStrangers x = Checks.of(ROW + "person 0 1 0 9;person 0 1 0 1;guide 1 0;stranger 1 2 5;finds 0 2;law 1;");
        x.tell(0, 1);
        due("FIRST", x.day(0, 0), 90);
        due("saves", x.saves(1), 90);
        due("where", x.where(0, 1), 90);
        due("many", x.many(0, 1), 90);
        due("corner", x.corner(0), 90);
        due("rest", x.rest(0), -10);
    }

    private static void promise21HowMuchLess() {
        says(21, "by how much the COST is less");
        LedStrangers more = Checks.of(ROW + "person 0 2 0 9;stranger 0 2 0;stranger 1 0 0;");
        due("it is more", more.saves(0), -90);
        due("it is the same", more.saves(3), 0);
        LedStrangers none = Checks.of(ROW + "stranger 0 2 0;");
        due("nothing to save", none.saves(0), 0);
    }

    private static void promise21Refused() {
        says(21, "`int saves(int place) throws IndexOutOfBoundsException`");
        LedStrangers two = Checks.of(TWO);
        dueBetween("saves of two", NO_PLACE, 0, 1, two::saves);
        LedStrangers twelve = Checks.of(LONG_ROW);
        dueBetween("saves of twelve", NO_PLACE, 0, 11, twelve::saves);
    }

    private static void promise22Which() {
        says(22, "WHICH: the PLACE by which it is least, of these the first.");
        due("all alike", Checks.of(LONG_ROW).which(), 0);
        due("the last", Checks.of(LONG_ROW + "person 11 10 0 1;stranger 11 9 0;").which(), 11);
        due("the first", Checks.of(LONG_ROW + "person 0 1 0 1;stranger 0 2 0;").which(), 0);
        due("of two alike the first", Checks.of(ROW + "person 1 0 0 1;person 2 3 0 1;stranger 1 2 0;stranger 2 1 0;").which(),
                1);
        due("of two the better one", Checks.of(ROW + "person 1 0 0 1;person 2 3 0 2;stranger 1 2 0;stranger 2 1 0;").which(),
                2);
        // A sign at 0 makes it more, signs elsewhere change nothing.
        due("not where it is more", Checks.of(ROW + "person 0 2 0 9;stranger 0 2 0;stranger 1 0 0;sign 1 2;").which(), 1);
    }

    // ---- promises 23 and 24

    private static void promise23Where() {
        says(23, "WHERE: one GUIDE more (F told) at the PLACE by which the COST is least, of these the first");
        LedStrangers x = Checks.of(ROW + "person 0 2 0 2;stranger 1 3 3;");
        due("for nothing", x.where(0, 0), 1);
        due("for nothing", x.where(0, 1), 0);
        for (int fee = 1; fee <= 9; fee++) {
            due("for as much, or more: the first", x.where(fee, 0), 0);
            due("for as much, or more", x.where(fee, 1), 20);
        }
        LedStrangers dear = Checks.of(ROW + "person 0 2 0 99;stranger 1 3 3;");
        due("for 9", dear.where(9, 0), 1);
        due("for 9", dear.where(9, 1), 180);
        LedStrangers last = Checks.of(LONG_ROW + "person 10 11 0 99;stranger 11 9 0;");
        due("at the last PLACE", last.where(1, 0), 11);
        due("at the last PLACE", last.where(1, 1), 240);
        // Nobody leads them: wherever a GUIDE waits, it costs more than before.
        LedStrangers more = Checks.of(TWO + "stranger 0 1 0;stranger 1 0 0;stranger 1 0 0;");
        due("more than before, the least of it", more.where(1, 0), 0);
        due("more than before, the least of it", more.where(1, 1), 10);
        due("more than before", more.day(0, 0), 0);
    }

    private static void promise23BesideFour() {
        says(23, "WHERE: 0 the PLACE, 1 the COST.");
        LedStrangers x = Checks.of(ROW + "guide 3 9;".repeat(4) + "person 0 2 0 99;stranger 1 3 3;");
        due("a fifth", x.where(1, 0), 1);
        due("a fifth", x.where(1, 1), 20);
        // The dear one leads the first stranger; without another one he would lead the second, too.
        LedStrangers behind = Checks.of(ROW + "guide 1 9;stranger 1 3 3;stranger 1 3 3;");
        due("before", behind.day(0, 0), 180 + 180);
        due("behind those that there are", behind.where(0, 0), 1);
        due("behind those that there are", behind.where(0, 1), 180);
    }

    private static void promise23Refused() {
        says(23, "IllegalArgumentException: F (0 to 9), what (so of the next).");
        LedStrangers x = Checks.of(TWO + "stranger 0 1 0;");
        dueBetween("where, fee", ILLEGAL, 0, 9, fee -> x.where(fee, 0));
        dueBetween("where, what", ILLEGAL, 0, 1, what -> x.where(0, what));
    }

    private static void promise24Many() {
        says(24, "MANY: how many of 0, 1, 2 more (two: at any two PLACES, also at one) make it least");
        String town = ROW + "person 0 3 5 9;person 0 3 5 9;stranger 1 0 3;stranger 2 0 3;";
        LedStrangers two = Checks.of(town);
        due("two apart", two.many(1, 0), 2);
        due("two apart", two.many(1, 1), 10 + 20);
        LedStrangers one = Checks.of(ROW + "person 0 2 0 2;stranger 1 3 3;");
        due("one", one.many(0, 0), 1);
        due("one", one.many(0, 1), 0);
        LedStrangers none = Checks.of(TWO + "stranger 0 1 0;stranger 1 0 0;");
        due("none", none.many(1, 0), 0);
        due("none", none.many(1, 1), 0);
        says(24, "MANY: 0 how many, 1 the COST.");
        LedStrangers ends = Checks.of(LONG_ROW + "person 1 0 0 99;person 10 11 0 99;stranger 0 2 0;stranger 11 9 0;");
        due("at the first and the last", ends.many(1, 0), 2);
        due("at the first and the last", ends.many(1, 1), 480);
        LedStrangers full = Checks.of(ROW + "guide 3 9;".repeat(4) + "person 0 3 5 9;person 0 3 5 9;stranger 1 0 3;"
                + "stranger 2 0 3;");
        due("two beside four", full.many(1, 0), 2);
        due("two beside four", full.many(1, 1), 30);
    }

    private static void promise24AtOnePlace() {
        says(24, "(two: at any two PLACES, also at one)");
        for (int z = 1; z <= 3; z++) {
            LedStrangers x = Checks.of(ROW + "person 0 3 50 9;person 0 3 50 9;stranger " + z + " 0 48;stranger " + z + " 0 48;");
            due("two at " + z, x.many(1, 0), 2);
            due("two at " + z, x.many(1, 1), 2 * 10 * z);
        }
    }

    private static void promise24Fewest() {
        says(24, "of these the fewest");
        LedStrangers alike = Checks.of(ROW + "person 0 2 0 2;stranger 1 3 3;");
        due("none and one alike", alike.many(1, 0), 0);
        due("none and one alike", alike.many(1, 1), 20);
        due("one and two alike", Checks.of(ROW + "person 0 2 0 2;stranger 1 3 3;").many(0, 0), 1);
        due("all alike", Checks.of(TWO).many(9, 0), 0);
        due("all alike", Checks.of(TWO).many(9, 1), 0);
    }

    private static void promise24Refused() {
        says(24, "`int many(int fee, int what) throws IllegalArgumentException`");
        LedStrangers x = Checks.of(TWO + "stranger 0 1 0;");
        dueBetween("many, fee", ILLEGAL, 0, 9, fee -> x.many(fee, 0));
        dueBetween("many, what", ILLEGAL, 0, 1, what -> x.many(9, what));
    }

    // ---- promises 25 and 26

    private static void promise25Corner() {
        says(25, "CORNER l: another law.");
        // The dear one goes to 1, the other one is where each law lets him be left first, and leads on for nothing.
        for (int law = 1; law <= 9; law++) {
            int left = law;
            String town = SHORT_STREETS + "person " + left + " 11 " + 5 * left + " 1;person 0 1 0 9;stranger 0 11 0;law 9;";
            LedStrangers x = Checks.of(town);
            due("the law " + law, x.corner(law), 9 * (5 * left + 5 * (left - 1) - 5));
            due("all the way", x.corner(0), 9 * (55 + 50 - 5));
            due("the law of the town stays", x.told(4), 9);
            due("the law of the town itself", x.corner(9), x.day(0, 0));
        }
    }

    private static void promise25Refused() {
        says(25, "CORNER: the COST. IllegalArgumentException: l (0 to 9).");
        LedStrangers x = Checks.of(TWO + "stranger 0 1 0;");
        dueBetween("corner", ILLEGAL, 0, 9, x::corner);
    }

    private static void promise26Other() {
        says(26, "OTHER: the law of the least COST, of these the least.");
        // Who is met at the PLACE to which the law leads goes on for nothing; a dear one is met at each PLACE before
        // it, in the MINUTE in which one would be left there.
        for (int law = 1; law <= 9; law++) {
            StringBuilder town = new StringBuilder(SHORT_STREETS);
            for (int before = 1; before < law; before++) {
                town.append("person ").append(before).append(' ').append(before - 1).append(' ').append(5 * before).append(" 99;");
            }
            town.append("person ").append(law).append(" 11 ").append(5 * law).append(" 1;");
            town.append("person 0 ").append(law).append(" 0 9;stranger 0 11 0;");
            LedStrangers x = Checks.of(town.toString());
            due("nothing is lost by it", x.corner(law), 0);
            due("the law " + law + " alone", x.other(), law);
        }
        due("of two alike the least", Checks.of(SHORT_STREETS + "person 4 11 20 1;person 1 0 5 99;person 0 4 0 9;"
                + "stranger 0 11 0;").other(), 2);
        due("all alike", Checks.of(SHORT_STREETS + "person 0 1 0 9;stranger 0 11 0;law 7;").other(), 0);
        due("no STRANGERS", Checks.of("law 9;").other(), 0);
    }

    // ---- promises 27 and 28

    private static void promise27Rest() {
        says(27, "REST: a PERSON stays at home: how much less all others lose (GUIDES with them).");
        due("he himself does not count", Checks.of(ROW + "person 0 2 0 2;stranger 1 3 3;").rest(0), 0);
        LedStrangers both = Checks.of(ROW + "person 0 2 0 2;person 0 2 0 3;stranger 1 3 3;");
        due("then the other is asked", both.rest(0), -30);
        due("who is not asked", both.rest(1), 0);
        // By the law the second brings one to 2, where the first leads on; at home he does not.
        LedStrangers less = Checks.of("places 5;street 0 1 5;street 1 2 5;street 2 3 5;street 2 4 5;law 1;"
                + "person 2 4 5 7;person 3 2 0 1;stranger 3 1 0;");
        due("less is lost", less.rest(1), 70);
        due("who never goes", Checks.of("street 0 1 5;person 0 1 0 1;person 0 3 0 9;stranger 0 1 0;").rest(1), 0);
        due("the last of ten", Checks.of(ROW + "person 0 1 0 1;".repeat(10) + "stranger 1 2 5;").rest(9), 0);
    }

    private static void promise27GuidesWithThem() {
        says(27, "(GUIDES with them)");
        due("then the guide is asked", Checks.of(ROW + "person 0 1 0 2;stranger 1 2 5;guide 1 3;").rest(0), -30);
        // He brings the second to 1 and leads the first back; the guide at 1 leads the second on.
        LedStrangers brought = Checks.of(ROW + "stranger 1 0 5;stranger 0 3 0;person 0 1 0 2;law 1;guide 1 3;");
        due("the guide leads him whom he brought", brought.fees(0), 60);
        due("at home he brings nobody, and the guide leads the other", brought.rest(0), 60 - 30);
    }

    private static void promise27Refused() {
        says(27, "`int rest(int person) throws NoSuchElementException`");
        LedStrangers ten = Checks.of(TWO + "person 0 1 0 1;".repeat(10) + "stranger 0 1 0;");
        dueBetween("rest of ten", NOBODY, 0, 9, ten::rest);
        LedStrangers none = Checks.of(TWO + "stranger 0 1 0;");
        dueRefused("rest without any", NOBODY, new int[] {0, -1, 1}, none::rest);
    }

    private static void promise28Avoid() {
        says(28, "AVOID: the least minutes from P to Q past no PLACE (but P and Q) to which a STRANGER comes.");
        String town = "places 5;street 0 1 5;street 1 4 5;street 0 2 6;street 2 4 6;street 0 3 7;street 3 4 7;street 0 4 60;"
                + "person 0 4 0 1;";
        due("no STRANGERS", Checks.of(town).avoid(0), 10);
        due("one", Checks.of(town + "stranger 1 0 500;chance 0 1;").avoid(0), 12);
        due("two", Checks.of(town + "stranger 1 0 0;stranger 2 0 0;").avoid(0), 14);
        due("three, but a street is left", Checks.of(town + "stranger 1 0 0;stranger 2 0 0;stranger 3 0 0;").avoid(0), 60);
        due("where one is bound for does not count", Checks.of(town + "stranger 4 1 0;").avoid(0), 10);
        due("two at one PLACE", Checks.of(town + "stranger 2 0 0;stranger 2 0 0;").avoid(0), 10);
        LedStrangers row = Checks.of(LONG_ROW + "person 0 11 0 1;stranger 11 0 0;stranger 0 11 0;");
        due("all the row", row.avoid(0), 660);
        due("past 0", Checks.of("street 1 0 5;street 0 2 5;street 1 2 60;person 1 2 0 1;").avoid(0), 10);
        due("not past 0", Checks.of("street 1 0 5;street 0 2 5;street 1 2 60;person 1 2 0 1;stranger 0 1 0;").avoid(0), 60);
        due("of eight STRANGERS the last", Checks.of(town + "stranger 0 1 0;".repeat(7) + "stranger 1 0 0;").avoid(0), 12);
    }

    private static void promise28ButBothEnds() {
        says(28, "(but P and Q)");
        String town = ROW + "person 0 2 0 1;person 2 0 0 1;person 1 3 0 1;";
        LedStrangers p = Checks.of(town + "stranger 0 1 0;");
        due("P", p.avoid(0), 10);
        due("Q", p.avoid(1), 10);
        LedStrangers both = Checks.of(town + "stranger 0 1 0;stranger 2 0 0;");
        due("both", both.avoid(0), 10);
        due("of another one it is between", both.avoid(2), -1);
    }

    private static void promise28NoSuchWay() {
        says(28, "AVOID: the minutes; NONE: there is no such WAY.");
        due("only past such a PLACE", Checks.of(ROW + "person 0 2 0 1;stranger 1 0 0;").avoid(0), -1);
        due("the last but one", Checks.of(LONG_ROW + "person 0 11 0 1;stranger 10 0 0;").avoid(0), -1);
        due("no WAY at all", Checks.of("person 0 2 0 1;").avoid(0), -1);
    }

    private static void promise28Refused() {
        says(28, "`int avoid(int person) throws NoSuchElementException`");
        LedStrangers ten = Checks.of(TWO + "person 0 1 0 1;".repeat(10) + "stranger 0 1 0;");
        dueBetween("avoid of ten", NOBODY, 0, 9, ten::avoid);
        LedStrangers none = Checks.of(TWO + "stranger 0 1 0;");
        dueRefused("avoid without any", NOBODY, new int[] {0, -1, 1}, none::avoid);
    }

    /** Other towns are asked about, not made. */
    private static void townStays() {
        int[] promises = {16, 17, 18, 19, 20, 21, 22, 23, 24, 25, 26, 27, 28, 29, 30, 31, 32};
        for (int i = 0; i < promises.length; i++) {
            says(promises[i], "Nothing is promised beyond the answers and state changes described above");
            LedStrangers x = Checks.of(ROW + "person 0 2 0 2;person 2 0 0 3;not 1 3;stranger 1 3 3;stranger 2 0 0;"
                    + "chance 1 3;guide 3 4;law 2;sign 0 3;");
            x.tell(0, 0);
            x.image();
            String before = Checks.state(x);
            int first = asking(x)[i].answer();
            dueSame("asking changes nothing", Checks.state(x), before);
            due("asked again", asking(x)[i].answer(), first);
        }
    }

    /** Calls that only ask, from promise 16 on. */
    private static Checks.Call[] asking(LedStrangers x) {
        return new Checks.Call[] {() -> x.judge(1), () -> x.match(0), () -> x.matched(1), x::bound, () -> x.hand(0, 2, 0),
            () -> x.saves(1), x::which, () -> x.where(0, 0), () -> x.many(0, 1), () -> x.corner(9), x::other, () -> x.rest(0),
            () -> x.avoid(1), () -> x.learn(9), x::soon, () -> x.seed(4, 5, 0), () -> x.mean(3, 9)};
    }
}

/** Promises 6 to 10: ways, people, strangers and told pairs: each sentence that has an edge, by itself. */
public final class TownEdgesTest extends Edges {
    /** Ten people and eight strangers. */
    private static final String FULL = "places 12;street 0 1 5;" + "person 0 1 0 1;".repeat(10) + "stranger 0 1 0;".repeat(8);

    public static void main(String[] args) {
        begin("edges of the town");
        promise6Far();
        promise6NoWay();
        promise6NoSuchPlace();
        promise7Way();
        promise7FirstPlaceByPlace();
        promise7NoneSuch();
        promise7NoSuchPlace();
        promise8Person();
        promise8NeverGoes();
        promise8NoSuchPerson();
        promise8AnotherWhat();
        promise9Stranger();
        promise9Refused();
        promise10Tell();
        promise10NobodyAtFirst();
        promise10NoSuchStranger();
        promise10NoSuchPerson();
        end();
    }

    // ---- promises 6 and 7

    private static void promise6Far() {
        says(6, "FAR: the least minutes from one PLACE to another one");
        LedStrangers row = Checks.of(LONG_ROW);
        for (int a = 0; a < 12; a++) {
            for (int b = 0; b < 12; b++) {
                due("far " + a + " " + b, row.far(a, b), 60 * Math.abs(a - b));
            }
        }
        LedStrangers round = Checks.of("street 0 1 60;street 0 2 20;street 2 3 20;street 3 1 19;");
        due("round by two places is less", round.far(0, 1), 59);
        due("and back", round.far(1, 0), 59);
        LedStrangers alike = Checks.of("street 0 1 59;street 0 2 20;street 2 3 20;street 3 1 19;");
        due("as much", alike.far(0, 1), 59);
        LedStrangers less = Checks.of("street 0 1 58;street 0 2 20;street 2 3 20;street 3 1 19;");
        due("straight is less", less.far(0, 1), 58);
        due("the least there is", Checks.of("street 0 3 1;").far(0, 3), 1);
        due("by the first PLACE", Checks.of("street 1 0 5;street 0 2 6;street 1 2 12;").far(2, 1), 11);
        due("by the last PLACE", Checks.of("street 1 3 5;street 3 2 6;street 1 2 12;").far(2, 1), 11);
        due("by the last of twelve", Checks.of("places 12;street 1 11 5;street 11 2 6;street 1 2 12;").far(2, 1), 11);
    }

    private static void promise6NoWay() {
        says(6, "FAR; NONE.");
        LedStrangers x = Checks.of("places 5;street 0 1 1;street 2 3 60;");
        due("two parts of a town", x.far(0, 2), -1);
        due("two parts of a town", x.far(3, 1), -1);
        due("a PLACE without a street", x.far(4, 0), -1);
        due("a PLACE without a street", x.far(0, 4), -1);
        for (int z = 0; z < 5; z++) {
            due("a PLACE itself", x.far(z, z), 0);
        }
    }

    private static void promise6NoSuchPlace() {
        says(6, "IndexOutOfBoundsException: no such PLACE (so below).");
        LedStrangers two = Checks.of("places 2;street 0 1 1;");
        dueBetween("far from", NO_PLACE, 0, 1, z -> two.far(z, 0));
        dueBetween("far to", NO_PLACE, 0, 1, z -> two.far(0, z));
        LedStrangers twelve = Checks.of("places 12;");
        dueBetween("far from", NO_PLACE, 0, 11, z -> twelve.far(z, 11));
        dueBetween("far to", NO_PLACE, 0, 11, z -> twelve.far(11, z));
        LedStrangers bare = new LedStrangers();
        dueBetween("far in a new town", NO_PLACE, 0, 3, z -> bare.far(z, z));
        Checks.town(twelve, "places 2;");
        dueBetween("far in a lesser town", NO_PLACE, 0, 1, z -> twelve.far(z, 0));
    }

    private static void promise7Way() {
        says(7, "The i-th PLACE of a WAY (the first one at 0)");
        LedStrangers row = Checks.of(LONG_ROW);
        for (int i = 0; i < 12; i++) {
            due("up, at " + i, row.way(0, 11, i), i);
            due("down, at " + i, row.way(11, 0, i), 11 - i);
        }
        due("of one street", row.way(4, 5, 0), 4);
        due("of one street", row.way(4, 5, 1), 5);
    }

    private static void promise7FirstPlaceByPlace() {
        says(7, "WAY: of those the first PLACE by PLACE.");
        // Three ways of six minutes from 0 to 5: by 3, by 2 and 4, by 2 and 1. The street is longer.
        LedStrangers x = Checks.of("places 6;street 0 3 2;street 3 5 4;street 0 2 1;street 2 4 2;street 4 5 3;street 2 1 4;"
                + "street 1 5 1;street 0 5 7;");
        int[] up = {0, 2, 1, 5, -1};
        int[] down = {5, 1, 2, 0, -1};
        for (int i = 0; i < 5; i++) {
            due("up, at " + i, x.way(0, 5, i), up[i]);
            due("down, at " + i, x.way(5, 0, i), down[i]);
        }
        // As far by a PLACE with a lesser number than the end: that comes first, though there are more PLACES.
        LedStrangers more = Checks.of("street 0 3 5;street 0 1 2;street 1 3 3;");
        due("by 1", more.way(0, 3, 1), 1);
        due("back straight, 0 being the least", more.way(3, 0, 1), 0);
        LedStrangers less = Checks.of("street 0 1 5;street 0 2 2;street 2 1 3;");
        due("straight, 1 being less than 2", less.way(0, 1, 1), 1);
        LedStrangers far = Checks.of("street 0 3 4;street 0 1 2;street 1 3 3;");
        due("first the least minutes", far.way(0, 3, 1), 3);
    }

    private static void promise7NoneSuch() {
        says(7, "NONE: none such.");
        int[] outside = {-1, -2, 12, 13, Integer.MAX_VALUE, Integer.MIN_VALUE};
        LedStrangers row = Checks.of(LONG_ROW);
        for (int i : outside) {
            due("of twelve, at " + i, row.way(0, 11, i), -1);
        }
        due("behind one street", row.way(4, 5, 2), -1);
        due("a PLACE itself", row.way(4, 4, 0), 4);
        due("a PLACE itself, behind", row.way(4, 4, 1), -1);
        due("a PLACE itself, before", row.way(4, 4, -1), -1);
        LedStrangers apart = Checks.of("street 0 1 1;");
        for (int i = -1; i < 5; i++) {
            due("no WAY, at " + i, apart.way(0, 2, i), -1);
        }
    }

    private static void promise7NoSuchPlace() {
        says(7, "`int way(int from, int to, int i) throws IndexOutOfBoundsException`");
        LedStrangers x = Checks.of("places 3;street 0 1 1;");
        dueBetween("way from", NO_PLACE, 0, 2, z -> x.way(z, 0, 0));
        dueBetween("way to", NO_PLACE, 0, 2, z -> x.way(0, z, 0));
        dueBetween("way, where there is no i either", NO_PLACE, 0, 2, z -> x.way(0, z, -1));
    }

    // ---- promises 8 and 9

    private static void promise8Person() {
        says(8, "Of a PERSON: 0 P, 1 Q, 2 T, 3 V, 4 what he knows (bits), 5 when he comes to Q if nobody asks");
        LedStrangers x = Checks.of(LONG_ROW + "person 0 11 500 99;person 11 0 0 1;not 1 0;not 1 11;stranger 0 1 500;");
        int[] first = {0, 11, 500, 99, 4095, 1160};
        int[] second = {11, 0, 0, 1, 4095 - 1 - 2048, 660};
        for (int what = 0; what < 6; what++) {
            due("of the first " + what, x.person(0, what), first[what]);
            due("of the second " + what, x.person(1, what), second[what]);
        }
        due("somebody asks the first", x.lost(0, 0), 0);
        LedStrangers asked = Checks.of(ROW + "person 0 1 3 2;stranger 0 3 0;");
        due("somebody asks", asked.lost(0, 0), 40);
        due("as if nobody asks", asked.person(0, 5), 8);
    }

    private static void promise8NeverGoes() {
        says(8, "(NONE: he never goes)");
        LedStrangers x = Checks.of("street 0 1 1;street 2 3 1;person 0 2 0 1;person 0 1 0 1;");
        due("no WAY", x.person(0, 5), -1);
        due("a WAY", x.person(1, 5), 1);
        due("what he knows stays", x.person(0, 4), 15);
        due("T stays", x.person(0, 2), 0);
    }

    private static void promise8NoSuchPerson() {
        says(8, "NoSuchElementException: no such PERSON, STRANGER (so below).");
        LedStrangers none = Checks.of("stranger 0 1 0;");
        dueRefused("person without any", NOBODY, new int[] {0, -1, 1, 9}, p -> none.person(p, 0));
        LedStrangers one = Checks.of("person 0 1 0 1;stranger 0 1 0;stranger 0 1 0;");
        dueBetween("person of one", NOBODY, 0, 0, p -> one.person(p, 5));
        LedStrangers ten = Checks.of(FULL);
        dueBetween("person of ten", NOBODY, 0, 9, p -> ten.person(p, 0));
        Checks.town(ten, "person 0 1 0 1;person 0 1 0 1;");
        dueBetween("person of a lesser town", NOBODY, 0, 1, p -> ten.person(p, 0));
    }

    private static void promise8AnotherWhat() {
        says(8, "`int person(int person, int what) throws NoSuchElementException, IllegalArgumentException`");
        LedStrangers x = Checks.of("person 0 1 0 1;");
        dueBetween("person, what", ILLEGAL, 0, 5, what -> x.person(0, what));
    }

    private static void promise9Stranger() {
        says(9, "Of a STRANGER: 0 X, 1 Y, 2 T, 3 C, 4 what he finds (bits).");
        LedStrangers x = Checks.of("places 12;stranger 11 0 500;stranger 0 11 0;chance 1 1;finds 1 0;finds 1 11;");
        int[] first = {11, 0, 500, 8, 0};
        int[] second = {0, 11, 0, 1, 2049};
        for (int what = 0; what < 5; what++) {
            due("of the first " + what, x.stranger(0, what), first[what]);
            due("of the second " + what, x.stranger(1, what), second[what]);
        }
        LedStrangers all = Checks.of("places 2;stranger 0 1 0;finds 0 0;finds 0 1;");
        due("finds all", all.stranger(0, 4), 3);
    }

    private static void promise9Refused() {
        says(9, "`int stranger(int stranger, int what) throws NoSuchElementException, IllegalArgumentException`");
        LedStrangers none = Checks.of("person 0 1 0 1;");
        dueRefused("stranger without any", NOBODY, new int[] {0, -1, 1, 7}, s -> none.stranger(s, 0));
        LedStrangers eight = Checks.of(FULL);
        dueBetween("stranger of eight", NOBODY, 0, 7, s -> eight.stranger(s, 0));
        dueBetween("stranger, what", ILLEGAL, 0, 4, what -> eight.stranger(7, what));
        Checks.town(eight, "stranger 0 1 0;");
        dueBetween("stranger of a lesser town", NOBODY, 0, 0, s -> eight.stranger(s, 0));
    }

    // ---- promise 10

    private static void promise10Tell() {
        says(10, "For a STRANGER a PERSON is told (NONE: nobody, as at first): who was.");
        LedStrangers x = Checks.of(FULL);
        due("the last of both", x.tell(7, 9), -1);
        due("the first of both", x.tell(0, 0), -1);
        due("the last again", x.tell(7, 9), 9);
        due("one PERSON for two", x.tell(6, 9), -1);
        due("nobody", x.tell(7, -1), 9);
        due("nobody again", x.tell(7, -1), -1);
        due("the others stay", x.tell(6, 8), 9);
        due("the others stay", x.tell(0, 1), 0);
        due("it is told indeed", x.judge(1), -1);
        due("by it he is led", x.leads(4, 0, 0), 1);
        due("by it he is led", x.leads(4, 6, 0), 8);
        due("by nobody", x.leads(4, 7, 0), -1);
    }

    private static void promise10NobodyAtFirst() {
        says(10, "(NONE: nobody, as at first)");
        LedStrangers x = Checks.of(FULL);
        for (int s = 0; s < 8; s++) {
            due("at first", x.tell(s, LedStrangers.NONE), -1);
        }
        due("nobody leads", x.day(4, 3), 0);
        due("nobody leads", x.day(4, 1), 8);
    }

    private static void promise10NoSuchStranger() {
        says(10, "`int tell(int stranger, int person) throws NoSuchElementException, IllegalArgumentException`");
        LedStrangers none = Checks.of("person 0 1 0 1;");
        dueRefused("tell without any", NOBODY, new int[] {0, -1, 1}, s -> none.tell(s, 0));
        dueRefused("tell nobody without any", NOBODY, new int[] {0, -1, 1}, s -> none.tell(s, -1));
        LedStrangers x = Checks.of(FULL);
        x.tell(7, 3);
        String before = Checks.state(x);
        dueRefused("tell", NOBODY, new int[] {-1, 8, Integer.MAX_VALUE, Integer.MIN_VALUE}, s -> x.tell(s, 0));
        dueSame("refused", Checks.state(x), before);
    }

    private static void promise10NoSuchPerson() {
        says(10, "IllegalArgumentException: no such PERSON, and not NONE.");
        LedStrangers x = Checks.of(FULL);
        dueBetween("tell", ILLEGAL, -1, 9, p -> x.tell(0, p));
        x.tell(0, 4);
        dueRefused("tell", ILLEGAL, new int[] {-2, 10, 100, Integer.MAX_VALUE, Integer.MIN_VALUE}, p -> x.tell(0, p));
        due("refused: who was told stays", x.tell(0, 4), 4);
        LedStrangers none = Checks.of("stranger 0 1 0;");
        dueBetween("tell in a town without PEOPLE", ILLEGAL, -1, -1, p -> none.tell(0, p));
    }
}

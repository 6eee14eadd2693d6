import java.util.NoSuchElementException;

/** Each promise of the document by itself, with answers worked out by hand. */
public final class PromisesTest {
    private static final Checks CHECKS = new Checks("promises");
    private static final Class<IllegalArgumentException> ILLEGAL = IllegalArgumentException.class;
    private static final Class<IndexOutOfBoundsException> NO_PLACE = IndexOutOfBoundsException.class;
    private static final Class<NoSuchElementException> NOBODY = NoSuchElementException.class;

    private static final String ROW = Checks.ROW;
    private static final String LONG_ROW = Checks.LONG_ROW;

    private static final String ONE_LED = ROW + "person 0 2 0 2;stranger 1 3 3;";

    /** At place 1 in minute 5 there are two people, one of them dear, and a guide. */
    private static final String THREE_CAN = "places 3;street 0 1 5;street 1 2 5;person 0 1 0 9;person 0 1 0 2;"
            + "stranger 1 2 5;guide 1 1;";

    public static void main(String[] args) {
        promise1NewObject();
        promise2Feed();
        promise3Town();
        promise3TownBehindTown();
        promise3FaultsOfWordsAndEnds();
        promise3FaultsOfNumbers();
        promise3FaultsOfTooMany();
        promise4Fault();
        promise5Told();
        promises6And7FarAndWay();
        promise8Person();
        promise9Stranger();
        promise10Tell();
        promise11DayByKinds();
        promise11DayBySigns();
        promise11DayByLaw();
        promise11DayByHalf();
        promise11DayOfMeetings();
        promise11DayToItsEnd();
        promises12To15OfOneDay();
        promise16Judge();
        promises17And18Match();
        promise19Bound();
        promise20Hand();
        promise20HandAlongTheWay();
        promises21And22Signs();
        promises23And24Guides();
        promises25And26Laws();
        promise27Rest();
        promise28Avoid();
        promises29And30Learning();
        promise31Seed();
        promise32Mean();
        promises33And34Images();
        promise35Count();
        CHECKS.end();
    }

    private static void due(String call, long got, long want) {
        CHECKS.due(call, got, want);
    }

    private static void promise1NewObject() {
        CHECKS.about("promise 1");
        LedStrangers x = new LedStrangers();
        due("new: NONE", LedStrangers.NONE, -1);
        due("new: places", x.told(0), 4);
        for (int what = 1; what <= 4; what++) {
            due("new: told", x.told(what), 0);
        }
        due("new: fault", x.fault(), -1);
        due("new: images", x.count(0), 0);
        due("new: tape", x.count(1), 0);
        due("new: far", x.far(3, 0), -1);
        for (int kind = 0; kind < 5; kind++) {
            for (int what = 0; what < 5; what++) {
                due("new: day", x.day(kind, what), 0);
            }
            due("new: fees", x.fees(kind), 0);
        }
        due("new: restore", x.restore(), -1);
        due("new: where", x.where(9, 0), 0);
        due("new: other", x.other(), 0);
    }

    private static void promise2Feed() {
        CHECKS.about("promise 2");
        LedStrangers x = new LedStrangers();
        // "law 7;" with the highest byte first.
        due("feed", x.feed(0x6c617720, 0x373b0000, 0, 0, 0), 20);
        due("feed: town", x.town(6), 0);
        due("feed: law", x.told(4), 7);
        for (int i = 1; i <= 30; i++) {
            due("feed", x.feed(-1, 0, Integer.MIN_VALUE, Integer.MAX_VALUE, 1), 20 * i);
        }
        due("feed: full", x.feed(1, 2, 3, 4, 5), -1);
        due("feed: full", x.feed(0, 0, 0, 0, 0), -1);
        due("feed: stays full", x.count(1), 600);
        due("feed: a high byte", x.town(600), -9);
        due("feed: at its place", x.fault(), 0);
        due("feed: again", x.feed(0, 0, 0, 0, 0), 20);
        x.town(0);
        due("feed: all five, in order", Checks.town(x, "person 0 1 2 3;law 9"), -9);
        due("feed: to the last byte", x.fault(), 20);
    }

    private static void promise3Town() {
        CHECKS.about("promise 3");
        LedStrangers x = new LedStrangers();
        due("town: people", Checks.town(x, ONE_LED), 1);
        due("town: empties the tape", x.count(1), 0);
        x.tell(0, 0);
        x.image();
        CHECKS.dueThrow("town(-1)", ILLEGAL, () -> x.town(-1));
        CHECKS.dueThrow("town(1)", ILLEGAL, () -> x.town(1));
        Checks.feed(x, "law 1;law");
        CHECKS.dueThrow("town(21)", ILLEGAL, () -> x.town(21));
        CHECKS.dueThrow("town(max)", ILLEGAL, () -> x.town(Integer.MAX_VALUE));
        CHECKS.dueThrow("town(min)", ILLEGAL, () -> x.town(Integer.MIN_VALUE));
        due("town: a throw leaves the tape", x.count(1), 20);
        due("town: a fault", x.town(9), -9);
        due("town: a fault empties the tape", x.count(1), 0);
        due("town: a fault leaves the places", x.told(0), 4);
        due("town: a fault leaves the people", x.told(1), 1);
        due("town: a fault leaves the law", x.told(4), 0);
        due("town: a fault leaves ways", x.far(0, 3), 15);
        due("town: a fault leaves images", x.count(0), 1);
        due("town: a fault leaves pairs", x.tell(0, 0), 0);
        Checks.feed(x, ONE_LED + "law 3;");
        due("town: the first bytes alone", x.town(ONE_LED.length()), 1);
        due("town: the first bytes alone", x.told(4), 0);
        due("town: images gone", x.count(0), 0);
        due("town: pairs gone", x.tell(0, 0), -1);
        due("town: nothing of the one before", Checks.town(x, "places 5;stranger 0 1 0;"), 0);
        due("town: nothing of the one before", x.far(0, 1), -1);
        due("town: nothing of the one before", x.stranger(0, 4), 0);
        Checks.feed(x, "law 1;");
        due("town: of no bytes", x.town(0), 0);
        due("town: of no bytes", x.told(0), 4);
        due("town: of no bytes", x.told(2), 0);
        due("town: of no bytes", x.count(1), 0);
        due("town: blanks alone", Checks.town(x, "   "), 0);
        due("town: without blanks", Checks.town(x, "places2;person1 0 0500 099;law9;"), 1);
        due("town: zeros ahead", x.person(0, 2), 500);
        due("town: zeros ahead", x.person(0, 3), 99);
        due("town: many zeros", Checks.town(x, "law 00000000000000000000000000000000007;"), 0);
        due("town: many zeros", x.told(4), 7);
        due("town: the last law, chance", Checks.town(x, "law 3;law 2;stranger 0 1 0;chance 0 1;chance 0 5;"), 0);
        due("town: the last law", x.told(4), 2);
        due("town: the last chance", x.stranger(0, 3), 5);
        due("town: the shortest street", Checks.town(x, "street 0 1 9;street 1 0 3;street 0 1 7;"), 0);
        due("town: the shortest street", x.far(0, 1), 3);
    }

    /** Whatever an object has read before, a town is as on a new object. */
    private static void promise3TownBehindTown() {
        CHECKS.about("promise 3");
        LedStrangers x = new LedStrangers();
        String bare = "places 3;street 0 1 5;street 1 2 5;person 2 1 0 3;stranger 0 1 0;";
        String full = bare + "not 0 1;finds 0 1;chance 0 1;sign 0 1;guide 0 4;law 2;stranger 0 2 0;stranger 2 0 0;";
        for (int i = 0; i < 4; i++) {
            due("town behind town: full", Checks.town(x, full), 1);
            due("town behind town: full", x.day(0, 1), 0);
            due("town behind town: matched", x.match(0), 1);
            for (int k = 0; k <= i; k++) {
                due("town behind town: bare", Checks.town(x, bare), 1);
                due("town behind town: no sign, no guide", x.day(0, 1), 1);
                due("town behind town: he finds nothing", x.day(3, 1), 1);
                due("town behind town: he finds nothing", x.stranger(0, 4), 0);
                due("town behind town: he comes", x.stranger(0, 3), 8);
                due("town behind town: all is known", x.person(0, 4), 7);
                due("town behind town: guides", x.told(3), 0);
                due("town behind town: law", x.told(4), 0);
                due("town behind town: matched", x.match(0), 1);
                due("town behind town: lost", x.match(1), 3 * (10 + 5 - 5));
            }
        }
    }

    private static void dueFault(String text, int kind, int place) {
        LedStrangers x = new LedStrangers();
        due("[" + text + "] town", Checks.town(x, text), kind - 10);
        due("[" + text + "] fault", x.fault(), place);
    }

    private static void promise3FaultsOfWordsAndEnds() {
        CHECKS.about("promise 3");
        dueFault("laws 1;", 1, 0);
        dueFault("la", 1, 0);
        dueFault("lawz 1;", 1, 0);
        dueFault("alaw 1;", 1, 0);
        dueFault("lawlaw 1;", 1, 0);
        dueFault("law`1;", 1, 3);
        dueFault("law{1;", 1, 3);
        dueFault("law 1:", 1, 5);
        dueFault("law 1/;", 1, 5);
        dueFault("  law", 1, 5);
        dueFault("law 1", 1, 5);
        dueFault("law 1  ", 1, 7);
        dueFault("law 1 2;", 1, 6);
        dueFault("law 1x;", 1, 5);
        dueFault("law x;", 1, 4);
        dueFault("law ;", 1, 4);
        dueFault("law -1;", 1, 4);
        dueFault(";", 1, 0);
        dueFault("law 1;;", 1, 6);
        dueFault("Law 1;", 1, 0);
        dueFault("lawL 1;", 1, 3);
        dueFault(" 7;", 1, 1);
        dueFault("law\t1;", 1, 3);
        dueFault("person 0 1 0;", 1, 12);
        dueFault("street 0 1", 1, 10);
        dueFault("law 1;\u00e9", 1, 6);
        dueFault("law 1,", 1, 5);
    }

    private static void promise3FaultsOfNumbers() {
        CHECKS.about("promise 3");
        dueFault("places 1;", 2, 7);
        dueFault("places 13;", 2, 7);
        dueFault("places 4294967300;", 2, 7);
        dueFault("places 99999999999999999999999999;", 2, 7);
        dueFault("street 4 0 1;", 2, 7);
        dueFault("street 0  0 1;", 2, 10);
        dueFault("street 0 1 0;", 2, 11);
        dueFault("street 0 1 61;", 2, 11);
        dueFault("person 0 4 0 1;", 2, 9);
        dueFault("person 1 1 0 1;", 2, 9);
        dueFault("person 0 1 501 1;", 2, 11);
        dueFault("person 0 1 0 0;", 2, 13);
        dueFault("person 0 1 0 100;", 2, 13);
        dueFault("not 0 1;person 0 1 0 1;", 2, 4);
        dueFault("person 0 1 0 1;not 1 0;", 2, 19);
        dueFault("person 0 1 0 1;not 0 4;", 2, 21);
        dueFault("stranger 2 2 0;", 2, 11);
        dueFault("stranger 0 1 501;", 2, 13);
        dueFault("person 0 1 0 1;finds 0 1;", 2, 21);
        dueFault("stranger 0 1 0;finds 0 4;", 2, 23);
        dueFault("stranger 0 1 0;chance 1 4;", 2, 22);
        dueFault("stranger 0 1 0;chance 0 0;", 2, 24);
        dueFault("stranger 0 1 0;chance 0 9;", 2, 24);
        dueFault("sign 3 3;", 2, 7);
        dueFault("sign 0 4;", 2, 7);
        dueFault("guide 4 0;", 2, 6);
        dueFault("guide 0 10;", 2, 8);
        dueFault("law 10;", 2, 4);
        dueFault("places 2;guide 2 0;", 2, 15);
        dueFault("law 10", 2, 4);
    }

    private static void promise3FaultsOfTooMany() {
        CHECKS.about("promise 3");
        dueFault("street 0 1 1;".repeat(21), 3, 260);
        dueFault("person 0 1 0 1;".repeat(11), 3, 150);
        dueFault("stranger 0 1 0;".repeat(9), 3, 120);
        dueFault("guide 0 0;".repeat(5), 3, 40);
        dueFault("guide 0 0;".repeat(4) + " guide", 3, 41);
        dueFault("law 1;".repeat(61), 3, 360);
        dueFault("law 1;".repeat(60) + "lax", 1, 360);
        dueFault("law 1;".repeat(60) + "places 3;", 3, 360);
        dueFault("law 1;".repeat(60) + ";", 1, 360);
        dueFault("law 1;places 3;", 4, 6);
        dueFault("places 3;places 3;", 4, 9);
        dueFault("places 3; places 99;", 4, 10);
        LedStrangers x = new LedStrangers();
        due("sixty clauses, blanks at the end", Checks.town(x, "law 1;".repeat(60) + "   "), 0);
        due("twenty streets", Checks.town(x, "street 0 1 1;".repeat(20)), 0);
        due("ten people", Checks.town(x, "person 0 1 0 1;".repeat(10)), 10);
        due("eight strangers", Checks.town(x, "stranger 0 1 0;".repeat(8)), 0);
        due("four guides", Checks.town(x, "guide 0 0;".repeat(4)), 0);
        due("four guides", x.told(3), 4);
        due("twelve places, the last ones", Checks.town(x, "places 12;street 11 10 60;sign 11 0;guide 11 9;"), 0);
    }

    private static void promise4Fault() {
        CHECKS.about("promise 4");
        LedStrangers x = new LedStrangers();
        due("fault: none", x.fault(), -1);
        Checks.town(x, "law 1;oops");
        due("fault: at", x.fault(), 6);
        CHECKS.dueThrow("fault: town(5)", ILLEGAL, () -> x.town(5));
        due("fault: of the latest town", x.fault(), 6);
        Checks.town(x, "law 1;");
        due("fault: gone", x.fault(), -1);
    }

    private static void promise5Told() {
        CHECKS.about("promise 5");
        LedStrangers x = Checks.of("places 7;person 0 1 0 1;person 1 0 0 1;stranger 0 1 0;stranger 0 1 0;"
                + "stranger 0 1 0;guide 0 1;law 5;");
        int[] want = {7, 2, 3, 1, 5};
        for (int what = 0; what < 5; what++) {
            due("told", x.told(what), want[what]);
        }
        CHECKS.dueThrow("told(5)", ILLEGAL, () -> x.told(5));
        CHECKS.dueThrow("told(-1)", ILLEGAL, () -> x.told(-1));
    }

    private static void promises6And7FarAndWay() {
        CHECKS.about("promises 6 and 7");
        // From 0 to 4 by 3, by 2 then 3, or by 1: all seven minutes.
        LedStrangers x = Checks.of("places 6;street 0 3 3;street 3 4 4;street 0 2 1;street 2 3 2;street 0 1 5;"
                + "street 1 4 2;street 0 4 8;");
        due("far", x.far(0, 4), 7);
        due("far: back", x.far(4, 0), 7);
        due("far: itself", x.far(5, 5), 0);
        due("far: none", x.far(0, 5), -1);
        int[] want = {0, 1, 4, -1};
        for (int i = 0; i < 4; i++) {
            due("way: the first", x.way(0, 4, i), want[i]);
        }
        int[] longer = {0, 2, 3, -1};
        for (int i = 0; i < 4; i++) {
            due("way: the first, though it has more places", x.way(0, 3, i), longer[i]);
        }
        due("way: back", x.way(4, 0, 1), 1);
        due("way: itself", x.way(5, 5, 0), 5);
        due("way: itself", x.way(5, 5, 1), -1);
        due("way: none", x.way(0, 5, 0), -1);
        due("way: before", x.way(0, 4, -1), -1);
        due("way: far behind", x.way(0, 4, Integer.MAX_VALUE), -1);
        due("way: far before", x.way(0, 4, Integer.MIN_VALUE), -1);
        CHECKS.dueThrow("far(-1, 0)", NO_PLACE, () -> x.far(-1, 0));
        CHECKS.dueThrow("far(6, 0)", NO_PLACE, () -> x.far(6, 0));
        CHECKS.dueThrow("far(0, 6)", NO_PLACE, () -> x.far(0, 6));
        CHECKS.dueThrow("way(6, 0, 0)", NO_PLACE, () -> x.way(6, 0, 0));
        CHECKS.dueThrow("way(0, -1, 0)", NO_PLACE, () -> x.way(0, -1, 0));
        CHECKS.dueThrow("way(0, 6, -5)", NO_PLACE, () -> x.way(0, 6, -5));
    }

    private static void promise8Person() {
        CHECKS.about("promise 8");
        LedStrangers x = Checks.of(ROW + "person 3 1 500 99;not 0 2;not 0 0;not 0 2;");
        int[] want = {3, 1, 500, 99, 0b1010, 510};
        for (int what = 0; what < 6; what++) {
            due("person", x.person(0, what), want[what]);
        }
        LedStrangers alone = Checks.of("places 12;person 0 1 0 1;");
        due("person: never goes", alone.person(0, 5), -1);
        due("person: knows all", alone.person(0, 4), 4095);
        CHECKS.dueThrow("person(1, 0)", NOBODY, () -> x.person(1, 0));
        CHECKS.dueThrow("person(-1, 0)", NOBODY, () -> x.person(-1, 0));
        CHECKS.dueThrow("person(0, 6)", ILLEGAL, () -> x.person(0, 6));
        CHECKS.dueThrow("person(0, -1)", ILLEGAL, () -> x.person(0, -1));
        CHECKS.dueThrow("person(1, 6)", NOBODY, () -> x.person(1, 6));
    }

    private static void promise9Stranger() {
        CHECKS.about("promise 9");
        LedStrangers x = Checks.of("stranger 3 1 500;stranger 0 2 7;finds 1 3;finds 1 0;chance 1 2;");
        int[] first = {3, 1, 500, 8, 0};
        int[] second = {0, 2, 7, 2, 0b1001};
        for (int what = 0; what < 5; what++) {
            due("stranger 0", x.stranger(0, what), first[what]);
            due("stranger 1", x.stranger(1, what), second[what]);
        }
        CHECKS.dueThrow("stranger(2, 0)", NOBODY, () -> x.stranger(2, 0));
        CHECKS.dueThrow("stranger(-1, 0)", NOBODY, () -> x.stranger(-1, 0));
        CHECKS.dueThrow("stranger(0, 5)", ILLEGAL, () -> x.stranger(0, 5));
        CHECKS.dueThrow("stranger(0, -1)", ILLEGAL, () -> x.stranger(0, -1));
        CHECKS.dueThrow("stranger(2, 5)", NOBODY, () -> x.stranger(2, 5));
    }

    private static void promise10Tell() {
        CHECKS.about("promise 10");
        LedStrangers x = Checks.of(THREE_CAN);
        due("tell: nobody at first", x.tell(0, 1), -1);
        due("tell: who was", x.tell(0, 0), 1);
        due("tell: nobody", x.tell(0, -1), 0);
        due("tell: nobody again", x.tell(0, -1), -1);
        CHECKS.dueThrow("tell(1, 0)", NOBODY, () -> x.tell(1, 0));
        CHECKS.dueThrow("tell(-1, 0)", NOBODY, () -> x.tell(-1, 0));
        CHECKS.dueThrow("tell(0, 2)", ILLEGAL, () -> x.tell(0, 2));
        CHECKS.dueThrow("tell(0, -2)", ILLEGAL, () -> x.tell(0, -2));
        CHECKS.dueThrow("tell(1, 2)", NOBODY, () -> x.tell(1, 2));
        due("tell: a throw tells nothing", x.tell(0, 0), -1);
    }

    private static void promise11DayByKinds() {
        CHECKS.about("promise 11");
        LedStrangers x = Checks.of(THREE_CAN);
        x.tell(0, 1);
        int[] cost = {90, 20, 10, 90, 20};
        int[] leader = {0, 1, 100, 0, 1};
        for (int kind = 0; kind < 5; kind++) {
            due("day: cost by kind " + kind, x.day(kind, 0), cost[kind]);
            due("day: left", x.day(kind, 1), 0);
            due("day: waited", x.day(kind, 2), 0);
            due("day: led", x.day(kind, 3), 1);
            due("day: there", x.day(kind, 4), 1);
            due("day: leader by kind " + kind, x.leads(kind, 0, 0), leader[kind]);
        }
        LedStrangers alike = Checks.of("places 3;street 0 1 5;street 1 2 5;person 0 1 0 9;person 0 1 0 2;person 0 1 0 2;"
                + "stranger 1 2 5;");
        due("day: of those who lose alike the first", alike.leads(1, 0, 0), 1);
        LedStrangers guideLast = Checks.of("places 2;street 0 1 5;person 1 0 0 1;not 0 1;stranger 0 1 5;guide 0 3;");
        due("day: people who don't know, then guides", guideLast.leads(0, 0, 0), 100);
        due("day: people who don't know, then guides", guideLast.leads(1, 0, 0), 100);
        due("day: of told pairs no guide", guideLast.day(4, 1), 1);
        LedStrangers noGuide = Checks.of("places 2;street 0 1 5;person 1 0 0 1;stranger 0 1 5;guide 1 3;");
        due("day: guides elsewhere, then people", noGuide.leads(2, 0, 0), 0);
        CHECKS.dueThrow("day(5, 0)", ILLEGAL, () -> x.day(5, 0));
        CHECKS.dueThrow("day(-1, 0)", ILLEGAL, () -> x.day(-1, 0));
        CHECKS.dueThrow("day(0, 5)", ILLEGAL, () -> x.day(0, 5));
        CHECKS.dueThrow("day(0, -1)", ILLEGAL, () -> x.day(0, -1));
    }

    private static void promise11DayBySigns() {
        CHECKS.about("promise 11");
        LedStrangers x = Checks.of(ROW + "sign 0 3;person 0 1 0 1;stranger 0 3 0;stranger 0 2 0;guide 0 1;");
        for (int kind = 0; kind < 3; kind++) {
            due("sign: he goes alone", x.leads(kind, 0, 0), -1);
            due("sign: all the way", x.there(kind, 0), 15);
            due("sign: the other is led", x.day(kind, 3), 1);
        }
        due("sign: by told pairs too", x.there(4, 0), 15);
        LedStrangers apart = Checks.of("sign 0 3;stranger 0 3 0;guide 0 1;");
        due("sign: without a way he waits", apart.day(0, 2), 1000);
        due("sign: without a way he is left", apart.day(0, 1), 1);
        LedStrangers later = Checks.of(ROW + "sign 1 3;person 0 1 0 1;law 1;stranger 0 3 0;");
        due("sign: where he was left", later.there(0, 0), 15);
        due("sign: where he was left", later.day(0, 3), 1);
        due("sign: where he was left", later.day(0, 0), 0);
    }

    private static void promise11DayByLaw() {
        CHECKS.about("promise 11");
        LedStrangers x = Checks.of(ROW + "person 0 1 0 3;law 1;stranger 0 3 0;");
        // The same person is there again where he leaves him: 5, 10, 15, then back to 1 in minute 25.
        due("law: cost", x.day(0, 0), 60);
        due("law: led", x.day(0, 3), 3);
        due("law: waited", x.day(0, 2), 0);
        due("law: there", x.there(0, 0), 15);
        LedStrangers two = Checks.of(ROW + "person 0 1 0 3;law 2;stranger 0 3 0;person 3 2 12 1;");
        // Left at 2 in minute 10, where the first person is still there and leads on.
        due("law 2: led", two.day(0, 3), 2);
        due("law 2: second leader", two.leads(0, 0, 1), 0);
        LedStrangers handed = Checks.of(ROW + "person 1 2 0 3;person 2 3 6 1;law 1;stranger 1 3 0;not 0 0;");
        due("law: left in minute 5, led on at once", handed.leads(0, 0, 1), 0);
        due("law 1: as by all", handed.day(0, 0), 30);
        // He is back at 1 in minute 15, and leads on to 2 and 3.
        LedStrangers taken = Checks.of(ROW + "stranger 1 0 5;stranger 0 3 0;person 0 3 0 1;law 1;");
        due("law: the stranger with the lesser number asks first", taken.leads(0, 0, 0), 0);
        due("law: the other waits on where he was left", taken.there(0, 1), 25);
        due("law: he waits from that minute on", taken.day(0, 2), 10);
        LedStrangers guided = Checks.of(ROW + "guide 0 2;law 1;stranger 0 3 0;");
        due("law: a guide goes all the way", guided.there(0, 0), 15);
        due("law: a guide goes all the way", guided.fees(0), 60);
        // As far as place 1 the dear person loses nothing and the other 10; all the way 90 and 20.
        LedStrangers choose = Checks.of("places 5;street 0 1 5;street 1 2 5;street 0 4 5;person 0 4 0 1;"
                + "person 0 1 0 9;law 1;stranger 0 2 0;");
        due("law: choose by what is lost by it", choose.leads(1, 0, 0), 1);
    }

    private static void promise11DayByHalf() {
        CHECKS.about("promise 11");
        LedStrangers x = Checks.of(ROW + "person 0 2 0 2;stranger 1 3 3;finds 0 2;");
        due("half: cost", x.day(3, 0), 20);
        due("half: waited", x.day(3, 2), 2);
        due("half: there", x.there(3, 0), 15);
        LedStrangers all = Checks.of(ROW + "stranger 0 3 7;finds 0 1;finds 0 2;finds 0 3;");
        due("half: alone all the way", all.there(3, 0), 22);
        due("half: alone all the way", all.day(3, 2), 0);
        due("half: alone all the way", all.day(3, 3), 0);
        for (int kind : new int[] {0, 1, 2, 4}) {
            due("half: by others he waits", all.day(kind, 2), 993);
        }
        LedStrangers goal = Checks.of(ROW + "stranger 0 3 0;finds 0 3;finds 0 2;");
        due("half: not the next place", goal.day(3, 1), 1);
        LedStrangers sign = Checks.of(ROW + "stranger 0 3 0;finds 0 1;sign 0 3;");
        due("half: a sign comes first", sign.there(3, 0), 15);
    }

    private static void promise11DayOfMeetings() {
        CHECKS.about("promise 11");
        LedStrangers missed = Checks.of(ROW + "person 0 2 0 2;stranger 1 3 6;");
        due("meeting: a minute late", missed.day(0, 1), 1);
        due("meeting: a minute late", missed.day(0, 2), 994);
        LedStrangers home = Checks.of(ROW + "person 1 0 4 2;stranger 1 3 0;");
        due("meeting: at home", home.there(0, 0), 14);
        due("meeting: at home", home.day(0, 0), 40);
        LedStrangers end = Checks.of(ROW + "person 0 1 0 2;stranger 1 0 5;");
        due("meeting: at the end, too", end.there(0, 0), 10);
        LedStrangers busy = Checks.of(ROW + "person 0 3 0 2;stranger 0 3 0;stranger 1 3 0;stranger 3 0 0;");
        due("meeting: who leads is not asked on the way", busy.there(0, 1), 45);
        due("meeting: where he leaves one he is asked", busy.leads(0, 2, 0), 0);
        due("meeting: where he leaves one he is asked", busy.there(0, 2), 30);
        due("meeting: back at the end", busy.lost(0, 0), 60);
        LedStrangers after = Checks.of(ROW + "person 0 3 0 2;stranger 0 1 0;stranger 2 1 0;");
        due("meeting: behind his leading he is where he comes", after.there(0, 1), 15);
        due("meeting: behind his leading he is where he comes", after.day(0, 0), 20);
        LedStrangers one = Checks.of("places 2;street 0 1 3;guide 0 2;stranger 0 1 0;stranger 0 1 1;");
        due("guide: back in minute 6, free again", one.there(0, 1), 9);
        due("guide: waited", one.day(0, 2), 5);
        due("guide: fees", one.fees(0), 24);
        due("guide: led", one.day(0, 3), 2);
        LedStrangers apart = Checks.of("places 3;street 0 1 3;guide 0 2;person 0 2 0 1;stranger 0 2 0;stranger 0 1 0;");
        due("without a way nobody leads", apart.leads(0, 0, 0), -1);
        due("who has no way is nowhere", apart.leads(0, 1, 0), 100);
    }

    private static void promise11DayToItsEnd() {
        CHECKS.about("promise 11");
        LedStrangers x = Checks.of(LONG_ROW + "person 0 11 500 1;stranger 8 11 0;stranger 9 11 0;");
        due("end: led in minute 980", x.there(0, 0), 1160);
        due("end: begun in time", x.day(0, 1), 1);
        due("end: none there in time", x.day(0, 4), 0);
        due("end: in minute 1040 nobody asks", x.there(0, 1), -1);
        due("end: waited to 999", x.day(0, 2), 1980);
        LedStrangers half = Checks.of(LONG_ROW + "stranger 0 11 500;finds 0 1;finds 0 2;finds 0 3;finds 0 4;"
                + "finds 0 5;finds 0 6;finds 0 7;finds 0 8;finds 0 9;finds 0 10;finds 0 11;");
        due("end: at 9 in minute 1040", half.day(3, 1), 1);
        due("end: he walks", half.day(3, 2), 0);
        LedStrangers last = Checks.of(LONG_ROW + "person 0 11 459 1;stranger 9 10 0;person 0 11 460 1;stranger 9 8 0;");
        due("end: in minute 999", last.leads(0, 0, 0), 0);
        due("end: in minute 1000", last.leads(0, 1, 0), -1);
        String findsNine = "finds 0 1;finds 0 2;finds 0 3;finds 0 4;finds 0 5;finds 0 6;finds 0 7;finds 0 8;finds 0 9;";
        LedStrangers waits = Checks.of(LONG_ROW + "stranger 0 11 459;" + findsNine);
        due("end: at 9 in minute 999, where he waits", waits.day(3, 2), 1);
        due("end: at 9 in minute 999, left", waits.there(3, 0), -1);
        LedStrangers goesOn = Checks.of(LONG_ROW + "stranger 0 10 459;finds 0 10;" + findsNine);
        due("end: at 9 in minute 999, goes on", goesOn.day(3, 2), 0);
        due("end: at 9 in minute 999, goes on", goesOn.there(3, 0), 1059);
        LedStrangers there = Checks.of(LONG_ROW + "stranger 0 9 459;" + findsNine);
        due("end: there in minute 999", there.there(3, 0), 999);
        due("end: there in minute 999", there.day(3, 4), 1);
        LedStrangers late = Checks.of(LONG_ROW + "stranger 0 9 460;" + findsNine);
        due("end: there in minute 1000", late.there(3, 0), 1000);
        due("end: there in minute 1000", late.day(3, 4), 0);
        due("end: there in minute 1000, not left", late.day(3, 1), 0);
        LedStrangers intime = Checks.of("places 2;street 0 1 60;street 0 1 5;stranger 0 1 0;guide 0 0;");
        due("end: there in time", intime.day(0, 4), 1);
    }

    private static void promises12To15OfOneDay() {
        CHECKS.about("promises 12 to 15");
        LedStrangers x = Checks.of(THREE_CAN);
        due("leads: none such", x.leads(0, 0, 1), -1);
        due("leads: none such", x.leads(0, 0, -1), -1);
        due("leads: none such", x.leads(0, 0, Integer.MAX_VALUE), -1);
        due("leads: a guide", x.leads(2, 0, 0), 100);
        due("there", x.there(0, 0), 10);
        due("there: left", x.there(4, 0), -1);
        due("lost", x.lost(0, 0), 90);
        due("lost", x.lost(0, 1), 0);
        due("lost", x.lost(1, 1), 20);
        due("fees", x.fees(0), 0);
        due("fees", x.fees(2), 10);
        CHECKS.dueThrow("leads(5, 0, 0)", ILLEGAL, () -> x.leads(5, 0, 0));
        CHECKS.dueThrow("leads(-1, 0, 0)", ILLEGAL, () -> x.leads(-1, 0, 0));
        CHECKS.dueThrow("leads(0, 1, 0)", NOBODY, () -> x.leads(0, 1, 0));
        CHECKS.dueThrow("leads(0, -1, 0)", NOBODY, () -> x.leads(0, -1, 0));
        CHECKS.dueThrow("there(5, 0)", ILLEGAL, () -> x.there(5, 0));
        CHECKS.dueThrow("there(0, 1)", NOBODY, () -> x.there(0, 1));
        CHECKS.dueThrow("lost(5, 0)", ILLEGAL, () -> x.lost(5, 0));
        CHECKS.dueThrow("lost(0, 2)", NOBODY, () -> x.lost(0, 2));
        CHECKS.dueThrow("lost(0, -1)", NOBODY, () -> x.lost(0, -1));
        CHECKS.dueThrow("fees(5)", ILLEGAL, () -> x.fees(5));
        CHECKS.dueThrow("fees(-1)", ILLEGAL, () -> x.fees(-1));
        // Where both may be thrown, the one that the face names first.
        CHECKS.dueThrow("leads(5, 1, 0)", NOBODY, () -> x.leads(5, 1, 0));
        CHECKS.dueThrow("there(5, 1)", NOBODY, () -> x.there(5, 1));
        CHECKS.dueThrow("lost(5, 2)", NOBODY, () -> x.lost(5, 2));
    }

    private static void promise16Judge() {
        CHECKS.about("promise 16");
        LedStrangers x = Checks.of(ROW + "person 0 3 0 1;person 3 0 0 1;stranger 1 3 0;stranger 2 0 0;"
                + "stranger 3 0 0;sign 3 0;not 1 0;");
        due("judge: nobody told", x.judge(0), 0);
        due("judge: nobody told", x.judge(1), -1);
        x.tell(0, 0);
        due("judge: the second is left", x.judge(0), 1);
        due("judge: the first is led", x.judge(1), -1);
        x.tell(1, 1);
        due("judge: who does not know", x.judge(0), 1);
        due("judge: who does not know", x.judge(1), 1);
        x.tell(1, -1);
        x.tell(2, 1);
        due("judge: by a sign, not by who was told", x.judge(1), 2);
        x.tell(2, -1);
        due("judge: none", x.judge(1), -1);
        CHECKS.dueThrow("judge(2)", ILLEGAL, () -> x.judge(2));
        CHECKS.dueThrow("judge(-1)", ILLEGAL, () -> x.judge(-1));
    }

    private static void promises17And18Match() {
        CHECKS.about("promises 17 and 18");
        LedStrangers x = Checks.of(ROW + "person 0 3 500 1;person 0 3 0 1;stranger 1 2 0;stranger 1 2 0;");
        due("match: the first", x.matched(0), 0);
        due("match: the first", x.matched(1), 1);
        due("match: led", x.match(0), 2);
        due("match: lost", x.match(1), 0);
        LedStrangers one = Checks.of(ROW + "person 0 1 0 2;stranger 2 3 0;stranger 2 3 0;");
        due("match: nobody last", one.matched(0), 0);
        due("match: nobody last", one.matched(1), -1);
        due("match: from 0 by 2 and 3 to 1", one.match(1), 2 * (10 + 5 + 10 - 5));
        // The first person could take the first stranger for nothing, but then the second would not be led.
        LedStrangers most = Checks.of(ROW + "person 0 3 0 1;person 3 0 0 2;stranger 0 3 0;stranger 1 2 0;not 1 2;");
        due("match: most led", most.match(0), 2);
        due("match: most led", most.matched(0), 1);
        due("match: most led", most.matched(1), 0);
        due("match: most led", most.match(1), 2 * (15 + 15 + 15 - 15));
        LedStrangers least = Checks.of(ROW + "person 0 1 0 9;person 0 1 0 1;stranger 1 2 0;");
        due("match: least lost", least.matched(0), 1);
        due("match: least lost", least.match(1), 10);
        LedStrangers dear = Checks.of(LONG_ROW + "person 0 1 0 99;stranger 11 0 0;");
        due("match: led, however dear", dear.match(0), 1);
        due("match: led, however dear", dear.match(1), 99 * (660 + 660 + 60 - 60));
        LedStrangers none = Checks.of("places 3;street 0 1 5;person 0 1 0 1;person 0 2 0 1;stranger 0 2 0;");
        due("match: no ways", none.match(0), 0);
        due("match: no ways", none.matched(0), -1);
        CHECKS.dueThrow("match(2)", ILLEGAL, () -> x.match(2));
        CHECKS.dueThrow("match(-1)", ILLEGAL, () -> x.match(-1));
        CHECKS.dueThrow("matched(2)", NOBODY, () -> x.matched(2));
        CHECKS.dueThrow("matched(-1)", NOBODY, () -> x.matched(-1));
    }

    private static void promise19Bound() {
        CHECKS.about("promise 19");
        // One person is the least for both strangers; the match needs the dear one too.
        LedStrangers x = Checks.of(ROW + "person 0 1 0 9;person 0 1 0 1;stranger 1 2 0;stranger 1 2 0;stranger 1 3 0;"
                + "not 0 3;not 1 3;");
        due("bound", x.bound(), 20);
        due("bound: below the match", x.match(1), 100);
        due("bound: nobody", Checks.of(ROW + "stranger 0 1 0;").bound(), 0);
    }

    private static void promise20Hand() {
        CHECKS.about("promise 20");
        String row = "places 5;street 0 1 5;street 1 2 5;street 2 3 5;street 3 4 5;";
        LedStrangers x = Checks.of(row + "person 0 2 0 9;person 2 3 10 1;person 3 4 20 1;stranger 0 4 0;law 1;");
        due("hand: by one", x.hand(0, 0, 0), 180);
        due("hand: by one", x.hand(0, 0, 1), 20);
        due("hand: by two", x.hand(0, 1, 0), 10);
        due("hand: by two", x.hand(0, 1, 1), 20);
        due("hand: by three", x.hand(0, 2, 0), 0);
        due("hand: by three, who waits", x.hand(0, 2, 1), 25);
        LedStrangers soon = Checks.of(row + "person 0 4 9 1;person 0 4 3 1;stranger 0 4 2;stranger 0 4 4;stranger 0 4 10;");
        due("hand: the least minute", soon.hand(0, 2, 1), 23);
        due("hand: who has gone by", soon.hand(1, 2, 1), 29);
        due("hand: nobody comes", soon.hand(2, 2, 0), -1);
        due("hand: nobody comes", soon.hand(2, 2, 1), -1);
        LedStrangers alone = Checks.of(row + "person 1 4 0 1;sign 1 4;guide 1 0;not 0 4;stranger 1 4 0;");
        due("hand: no signs, no guides, who knows", alone.hand(0, 2, 0), -1);
        LedStrangers once = Checks.of(row + "person 0 4 0 1;not 0 4;stranger 0 4 0;person 0 1 0 1;");
        due("hand: each once", once.hand(0, 2, 0), 30);
        CHECKS.dueThrow("hand(1, 0, 0)", NOBODY, () -> x.hand(1, 0, 0));
        CHECKS.dueThrow("hand(-1, 0, 0)", NOBODY, () -> x.hand(-1, 0, 0));
        CHECKS.dueThrow("hand(0, 3, 0)", ILLEGAL, () -> x.hand(0, 3, 0));
        CHECKS.dueThrow("hand(0, -1, 0)", ILLEGAL, () -> x.hand(0, -1, 0));
        CHECKS.dueThrow("hand(0, 0, 2)", ILLEGAL, () -> x.hand(0, 0, 2));
        CHECKS.dueThrow("hand(0, 0, -1)", ILLEGAL, () -> x.hand(0, 0, -1));
        CHECKS.dueThrow("hand(1, 3, 2)", NOBODY, () -> x.hand(1, 3, 2));
    }

    /** Handed on along the way to where he is bound, and nowhere else. */
    private static void promise20HandAlongTheWay() {
        CHECKS.about("promise 20");
        // Who goes to 2 anyway would lose nothing by it, but 2 is no place of the way from 1 to 0.
        LedStrangers round = Checks.of("street 0 1 5;street 1 2 5;street 2 3 5;street 3 0 4;"
                + "person 1 2 0 7;person 2 0 9 1;stranger 1 0 0;");
        for (int h = 0; h <= 2; h++) {
            due("hand: not round", round.hand(0, h, 0), 7 * (5 + 9 - 5));
            due("hand: not round", round.hand(0, h, 1), 5);
        }
        // By 4 he would lose others 18 (h 1) or nothing (h 2); the way is 0 1 2 3.
        String beside = "places 5;street 0 1 5;street 1 2 5;street 2 3 5;street 1 4 1;street 4 3 10;"
                + "person 0 1 0 9;person 1 4 6 5;person 4 3 8 1;stranger 0 3 0;";
        LedStrangers along = Checks.of(beside);
        due("hand: beside, by one", along.hand(0, 0, 0), 180);
        due("hand: beside, by one", along.hand(0, 0, 1), 15);
        due("hand: beside, by two", along.hand(0, 1, 0), 95);
        due("hand: beside, by two", along.hand(0, 1, 1), 16);
        due("hand: beside, by three", along.hand(0, 2, 0), 95);
        due("hand: beside, by three", along.hand(0, 2, 1), 16);
        LedStrangers onIt = Checks.of(beside + "person 2 3 20 1;");
        due("hand: on the way, by one", onIt.hand(0, 0, 0), 180);
        due("hand: on the way, by one", onIt.hand(0, 0, 1), 15);
        due("hand: on the way, by two", onIt.hand(0, 1, 0), 90);
        due("hand: on the way, by two", onIt.hand(0, 1, 1), 25);
        due("hand: on the way, by three", onIt.hand(0, 2, 0), 50);
        due("hand: on the way, by three", onIt.hand(0, 2, 1), 25);
        // By 1 and by 2 it is as far: the way goes by 1, the first.
        String square = "street 0 1 5;street 0 2 5;street 1 3 5;street 2 3 5;stranger 0 3 0;";
        LedStrangers second = Checks.of(square + "person 0 2 0 9;person 2 3 5 1;");
        due("hand: as far, but not the way", second.hand(0, 1, 0), 90);
        due("hand: as far, but not the way", second.hand(0, 2, 1), 10);
        LedStrangers first = Checks.of(square + "person 0 1 0 9;person 1 3 7 1;");
        due("hand: as far, and the way", first.hand(0, 1, 0), 0);
        due("hand: as far, and the way", first.hand(0, 2, 1), 12);
        // The run of issue 5.
        LedStrangers told = Checks.of("places 3;street 0 1 60;street 0 2 1;street 1 2 60;person 0 2 0 99;"
                + "person 2 1 1 1;stranger 0 1 0;");
        due("hand: 60, not 61", told.hand(0, 1, 0), 11781);
        due("hand: 60, not 61", told.hand(0, 2, 0), 11781);
        due("hand: 60, not 61", told.hand(0, 2, 1), 60);
    }

    private static void promises21And22Signs() {
        CHECKS.about("promises 21 and 22");
        LedStrangers x = Checks.of(ONE_LED + "stranger 2 3 0;");
        // The first is led past 2 to 3; back at 2 in minute 20 the person is asked by the second.
        due("saves: before", x.day(0, 0), 40);
        due("saves", x.saves(0), 0);
        due("saves", x.saves(1), 20);
        due("saves", x.saves(2), 20);
        due("which: of two alike the first", x.which(), 1);
        LedStrangers one = Checks.of(ONE_LED);
        due("saves", one.saves(1), 20);
        due("which", one.which(), 1);
        due("saves: stays", one.saves(1), 20);
        due("saves: the town stays", one.day(0, 0), 20);
        LedStrangers more = Checks.of(ROW + "person 0 1 0 2;stranger 0 1 0;stranger 1 3 5;");
        // Led as far as 1 the person is asked there again, and so he is without.
        due("saves: nothing where nothing is lost", more.saves(0), 0);
        due("saves", more.saves(1), 40);
        // Who leads one along his own way is not asked by another one; a sign makes him free for that.
        LedStrangers less = Checks.of(ROW + "person 0 2 0 9;stranger 0 2 0;stranger 1 0 0;");
        due("saves: before", less.day(0, 0), 0);
        due("saves: less than nothing", less.saves(0), -90);
        due("which: not that one", less.which(), 1);
        CHECKS.dueThrow("saves(4)", NO_PLACE, () -> x.saves(4));
        CHECKS.dueThrow("saves(-1)", NO_PLACE, () -> x.saves(-1));
    }

    private static void promises23And24Guides() {
        CHECKS.about("promises 23 and 24");
        LedStrangers x = Checks.of(ONE_LED);
        due("where: for nothing", x.where(0, 0), 1);
        due("where: for nothing", x.where(0, 1), 0);
        due("where: as dear, the first", x.where(1, 0), 0);
        due("where: as dear, the first", x.where(1, 1), 20);
        due("many: one", x.many(0, 0), 1);
        due("many: one", x.many(0, 1), 0);
        due("many: none", x.many(1, 0), 0);
        due("many: none", x.many(1, 1), 20);
        LedStrangers two = Checks.of(ROW + "person 0 3 5 9;person 0 3 5 9;stranger 1 0 3;stranger 2 0 3;");
        // Each person loses 90 and 180; a guide at 1 takes 1 times 10, at 2 takes 1 times 20.
        due("many: before", two.day(0, 0), 9 * 10 + 9 * 20);
        due("many: two apart", two.many(1, 0), 2);
        due("many: two apart", two.many(1, 1), 30);
        due("where: the dearer", two.where(1, 0), 2);
        due("where: the dearer", two.where(1, 1), 110);
        LedStrangers both = Checks.of(ROW + "person 0 3 5 9;person 0 3 5 9;stranger 2 0 3;stranger 2 0 3;");
        due("many: two at one place", both.many(2, 0), 2);
        due("many: two at one place", both.many(2, 1), 80);
        LedStrangers full = Checks.of(ROW + "guide 1 9;guide 1 9;guide 1 9;guide 1 9;stranger 2 3 0;person 1 2 0 9;"
                + "stranger 2 3 0;person 1 2 0 9;");
        due("many: beside four", full.many(0, 0), 2);
        due("many: beside four", full.many(0, 1), 0);
        CHECKS.dueThrow("where(10, 0)", ILLEGAL, () -> x.where(10, 0));
        CHECKS.dueThrow("where(-1, 0)", ILLEGAL, () -> x.where(-1, 0));
        CHECKS.dueThrow("where(0, 2)", ILLEGAL, () -> x.where(0, 2));
        CHECKS.dueThrow("where(0, -1)", ILLEGAL, () -> x.where(0, -1));
        CHECKS.dueThrow("many(10, 0)", ILLEGAL, () -> x.many(10, 0));
        CHECKS.dueThrow("many(-1, 0)", ILLEGAL, () -> x.many(-1, 0));
        CHECKS.dueThrow("many(0, 2)", ILLEGAL, () -> x.many(0, 2));
        CHECKS.dueThrow("many(0, -1)", ILLEGAL, () -> x.many(0, -1));
        due("where, many: no guide stays", x.told(3), 0);
    }

    private static void promises25And26Laws() {
        CHECKS.about("promises 25 and 26");
        // By the law 1 the dear one leads to 1, where the other, who has the lesser number, leads on.
        LedStrangers x = Checks.of(ROW + "law 9;person 1 3 5 1;person 0 1 0 9;stranger 0 3 0;");
        due("corner: all the way", x.corner(0), 180);
        due("corner: one place", x.corner(1), 0);
        due("corner: two places, where the other one is too", x.corner(2), 90);
        due("corner: nine", x.corner(9), 180);
        due("other", x.other(), 1);
        due("corner: the law stays", x.told(4), 9);
        // By 1 and 3 the dear one at 3 is asked, by 9 nobody loses; by all others one leads on past his errand.
        LedStrangers nine = Checks.of(LONG_ROW.replace(" 60;", " 5;") + "person 3 2 15 99;person 9 11 45 1;"
                + "person 0 9 0 1;stranger 0 11 0;law 5;");
        due("corner: three places, the dear one", nine.corner(3), 99 * 80);
        due("corner: eight places, then past 9", nine.corner(8), 20);
        due("corner: nine places", nine.corner(9), 0);
        due("other: the last", nine.other(), 9);
        due("other: of all alike the least", Checks.of(ONE_LED + "law 4;").other(), 0);
        CHECKS.dueThrow("corner(10)", ILLEGAL, () -> x.corner(10));
        CHECKS.dueThrow("corner(-1)", ILLEGAL, () -> x.corner(-1));
    }

    private static void promise27Rest() {
        CHECKS.about("promise 27");
        LedStrangers x = Checks.of(ROW + "person 0 1 0 2;person 0 1 0 5;stranger 1 2 0;guide 1 9;");
        // Nobody is asked but the guide, in minute 0.
        due("rest: guides lose as before", x.rest(0), 0);
        LedStrangers y = Checks.of(ROW + "person 0 1 0 2;person 0 1 0 5;stranger 1 2 5;stranger 1 2 5;stranger 1 2 5;");
        // The first leads two, the second one; without one of them the other leads all three.
        due("rest: the other leads all", y.rest(0), 50 - 150);
        due("rest: the other leads all", y.rest(1), 40 - 60);
        LedStrangers z = Checks.of(ROW + "person 0 1 0 2;person 0 1 0 5;stranger 1 2 5;guide 1 3;");
        due("rest: then the other loses", z.rest(0), -50);
        due("rest: who is not asked", z.rest(1), 0);
        LedStrangers g = Checks.of(ROW + "person 0 1 0 2;stranger 1 2 5;guide 1 3;");
        due("rest: then the guide is asked", g.rest(0), -30);
        // The second brings a stranger to 2 by the law, where the first must lead him on.
        LedStrangers less = Checks.of("places 5;street 0 1 5;street 1 2 5;street 2 3 5;street 2 4 5;law 1;"
                + "person 2 4 5 7;person 3 2 0 1;stranger 3 1 0;");
        due("rest: before", less.day(0, 0), 70);
        due("rest: less by it", less.rest(1), 70);
        due("rest: then he must lead on himself", less.rest(0), -10);
        CHECKS.dueThrow("rest(2)", NOBODY, () -> x.rest(2));
        CHECKS.dueThrow("rest(-1)", NOBODY, () -> x.rest(-1));
    }

    private static void promise28Avoid() {
        CHECKS.about("promise 28");
        LedStrangers x = Checks.of("places 5;street 0 1 5;street 1 2 5;street 0 3 20;street 3 2 30;street 0 2 60;"
                + "person 0 2 0 1;person 1 2 0 1;person 2 1 0 1;person 0 4 0 1;stranger 1 0 500;stranger 2 0 0;");
        due("avoid: round by 3", x.avoid(0), 50);
        due("avoid: from such a place", x.avoid(1), 5);
        due("avoid: to such a place", x.avoid(2), 5);
        due("avoid: no way at all", x.avoid(3), -1);
        due("avoid: only by such a place", Checks.of(ROW + "person 0 2 0 1;stranger 1 0 0;").avoid(0), -1);
        due("avoid: where one is bound for", Checks.of(ROW + "person 0 2 0 1;stranger 3 1 0;").avoid(0), 10);
        CHECKS.dueThrow("avoid(4)", NOBODY, () -> x.avoid(4));
        CHECKS.dueThrow("avoid(-1)", NOBODY, () -> x.avoid(-1));
    }

    private static void promises29And30Learning() {
        CHECKS.about("promises 29 and 30");
        // All three but the first ask for 0 on the first day; only the first knew it.
        LedStrangers x = Checks.of("places 3;person 0 1 0 1;person 0 1 0 1;person 0 1 0 1;not 1 0;not 2 0;not 2 1;");
        int[] want = {6, 7, 9, 9, 9};
        // Day 1: the second learns 0. Day 2: the third learns 0 of the first. Day 3: he learns 1.
        want[2] = 8;
        for (int days = 0; days < want.length; days++) {
            due("learn " + days, x.learn(days), want[days]);
        }
        due("soon", x.soon(), 3);
        due("learn: nothing stays", x.learn(0), 6);
        LedStrangers each = Checks.of("places 2;person 0 1 0 1;person 0 1 0 1;not 0 0;not 1 1;");
        due("learn: each leads the other", each.learn(1), 4);
        due("soon: one day", each.soon(), 1);
        LedStrangers never = Checks.of("places 3;person 0 1 0 1;person 0 1 0 1;not 0 0;not 1 0;not 1 2;");
        due("learn: nobody knows the least", never.learn(99), 3);
        due("soon: never", never.soon(), -1);
        LedStrangers self = Checks.of("places 2;person 0 1 0 1;not 0 1;");
        due("learn: nobody else", self.learn(99), 1);
        due("soon: never", self.soon(), -1);
        due("soon: already", Checks.of("person 0 1 0 1;").soon(), 0);
        CHECKS.dueThrow("learn(100)", ILLEGAL, () -> x.learn(100));
        CHECKS.dueThrow("learn(-1)", ILLEGAL, () -> x.learn(-1));
    }

    private static void promise31Seed() {
        CHECKS.about("promise 31");
        // From the seed 1 on the draws are 6, 6, 1; the third stranger takes none.
        LedStrangers x = Checks.of("places 2;street 0 1 5;stranger 0 1 0;stranger 0 1 0;stranger 0 1 0;stranger 0 1 0;"
                + "chance 0 7;chance 1 6;chance 3 2;guide 0 1;guide 0 2;person 1 0 0 1;");
        due("seed: come", x.seed(0, 1, 2), 3);
        due("seed: cost by first", x.seed(0, 1, 0), 10 + 20 + 10);
        due("seed: left", x.seed(0, 1, 1), 0);
        due("seed: left by told pairs", x.seed(4, 1, 1), 3);
        x.tell(3, 0);
        due("seed: told pairs", x.seed(4, 1, 1), 2);
        due("seed: told pairs", x.seed(4, 1, 0), 10);
        LedStrangers y = Checks.of("stranger 0 1 0;chance 0 6;stranger 0 1 0;chance 1 6;stranger 0 1 0;chance 2 1;");
        due("seed: below C alone", y.seed(0, 1, 2), 0);
        due("seed: who does not come is not left", y.seed(0, 1, 1), 0);
        due("seed: 0 draws 0 first", Checks.of("stranger 0 1 0;chance 0 1;").seed(0, 0, 2), 1);
        due("seed: a day has all", y.day(0, 1), 3);
        CHECKS.dueThrow("seed(5, 0, 0)", ILLEGAL, () -> x.seed(5, 0, 0));
        CHECKS.dueThrow("seed(-1, 0, 0)", ILLEGAL, () -> x.seed(-1, 0, 0));
        CHECKS.dueThrow("seed(0, 0, 3)", ILLEGAL, () -> x.seed(0, 0, 3));
        CHECKS.dueThrow("seed(0, 0, -1)", ILLEGAL, () -> x.seed(0, 0, -1));
    }

    private static void promise32Mean() {
        CHECKS.about("promise 32");
        LedStrangers x = Checks.of("places 2;street 0 1 5;stranger 0 1 0;chance 0 6;guide 0 1;");
        // Seed 0 draws 0, seed 1 draws 6: a cost of 10, then of 0.
        due("mean: of one", x.mean(0, 1), 10);
        due("mean: of two", x.mean(0, 2), 5);
        due("mean: of one", x.mean(1, 1), 0);
        int sum = 0;
        for (int i = 0; i < 99; i++) {
            sum += x.seed(0, Integer.MAX_VALUE - 5 + i, 0);
        }
        due("mean: it wraps", x.mean(Integer.MAX_VALUE - 5, 99), sum / 99);
        due("mean: all come", Checks.of(ONE_LED).mean(-7, 99), 20);
        CHECKS.dueThrow("mean(0, 0)", ILLEGAL, () -> x.mean(0, 0));
        CHECKS.dueThrow("mean(0, 100)", ILLEGAL, () -> x.mean(0, 100));
        CHECKS.dueThrow("mean(0, -1)", ILLEGAL, () -> x.mean(0, -1));
    }

    private static void promises33And34Images() {
        CHECKS.about("promises 33 and 34");
        LedStrangers x = Checks.of(THREE_CAN);
        due("image", x.image(), 1);
        x.tell(0, 0);
        due("image", x.image(), 2);
        x.tell(0, 1);
        due("image", x.image(), 3);
        due("image: there are three", x.image(), -1);
        x.tell(0, -1);
        due("restore", x.restore(), 2);
        due("restore: as it was", x.tell(0, -1), 1);
        due("restore", x.restore(), 1);
        due("restore: as it was", x.tell(0, 1), 0);
        due("image: again", x.image(), 2);
        x.tell(0, 0);
        due("restore", x.restore(), 1);
        due("restore: of the latest", x.tell(0, 0), 1);
        due("restore", x.restore(), 0);
        due("restore: as it was", x.tell(0, 0), -1);
        due("restore: none", x.restore(), -1);
        due("restore: none, all stays", x.tell(0, 0), 0);
    }

    private static void promise35Count() {
        CHECKS.about("promise 35");
        LedStrangers x = Checks.of(ONE_LED);
        x.image();
        x.image();
        due("count: images", x.count(0), 2);
        x.feed(1, 2, 3, 4, 5);
        x.feed(1, 2, 3, 4, 5);
        due("count: bytes", x.count(1), 40);
        x.restore();
        due("count: images", x.count(0), 1);
        due("count: restore leaves the tape", x.count(1), 40);
        due("count: others", x.count(2), -1);
        due("count: others", x.count(-1), -1);
        due("count: others", x.count(Integer.MIN_VALUE), -1);
    }
}

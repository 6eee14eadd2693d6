/** Promises 29 to 35: learning, lots, images and counts: each sentence that has an edge, by itself. */
public final class LotsEdgesTest extends Edges {
    /** Seeds whose first draw is 0, 1, .. 7. */
    private static final int[] SEEDS = {0, 4, 8, 3, 2, 11, 1, 5};
    private static final int[] SEEDS_BELOW_ZERO = {-5, -1, -6, -2, -7, -3, -4, -9};

    /** What is drawn from the seed 1 on. */
    private static final int[] DRAWS_OF_1 = {6, 6, 1, 3, 3, 3, 2, 3};

    public static void main(String[] args) {
        begin("edges of lots");
        promise29ByNumber();
        promise29TheLeastSuch();
        promise29InTheMorning();
        promise29LedNobody();
        promise29AnotherOne();
        promise29NextDay();
        promise29Together();
        promise29Days();
        promise30Soon();
        promise30Never();
        promise31BelowC();
        promise31Draws();
        promise31NoDraw();
        promise31Wraps();
        promise31Whats();
        promise31Refused();
        promise32Cut();
        promise32Wrapping();
        promise32First();
        promise32Refused();
        promise33Image();
        promise33Full();
        promise34Restore();
        promise34None();
        promise35Count();
        allCallsOfOneObject();
        end();
    }

    private static void dueLearn(String text, int... known) {
        LedStrangers x = Checks.of(text);
        for (int days = 0; days < known.length; days++) {
            due("learn(" + days + ") in [" + text + "]", x.learn(days), known[days]);
        }
        due("learn(99) in [" + text + "]", x.learn(99), known[known.length - 1]);
    }

    // ---- promises 29 and 30

    private static void promise29ByNumber() {
        says(29, "LEARNING, DAY by DAY: each PERSON who does not know some PLACE, by number, asks");
        // The only one who knows 0 leads the second on the first DAY; the third then asks for 0, too, and waits a DAY.
        dueLearn("places 2;person 0 1 0 1;person 0 1 0 1;person 0 1 0 1;not 1 0;not 2 0;not 2 1;", 3, 4, 5, 6);
        dueLearn("places 2;person 0 1 0 1;person 0 1 0 1;person 0 1 0 1;not 1 0;not 2 0;not 1 1;", 3, 4, 6);
    }

    private static void promise29TheLeastSuch() {
        says(29, "asks for the least such");
        // Nobody knows 0: whoever asks for it never comes to ask for 1, which the other knows.
        dueLearn("places 3;person 0 1 0 1;person 0 1 0 1;not 0 0;not 1 0;not 1 1;", 3, 3);
        // The one PLACE a DAY, the least first: 11 is learned last.
        dueLearn("places 12;person 0 1 0 1;person 0 1 0 1;not 1 11;not 1 0;not 1 5;", 21, 22, 23, 24);
        dueLearn("places 12;person 0 1 0 1;person 0 1 0 1;not 0 11;not 1 11;not 1 0;", 21, 22, 22);
    }

    private static void promise29InTheMorning() {
        says(29, "of those who knew it in the morning");
        // On the first DAY only the first knew 0; the second, who learns it then, leads nobody to it on that DAY.
        dueLearn("places 2;person 0 1 0 1;person 0 1 0 1;person 0 1 0 1;person 0 1 0 1;not 1 0;not 2 0;not 3 0;", 5, 6, 8);
    }

    private static void promise29LedNobody() {
        says(29, "and have led nobody that DAY");
        // The first leads one a DAY, though the two ask for two PLACES that only he knows.
        dueLearn("places 2;person 0 1 0 1;person 0 1 0 1;person 0 1 0 1;not 1 0;not 2 1;not 1 1;not 2 0;", 2, 3, 5, 6);
        // The first who may leads: 0 leads 2, so 1 leads 3.
        dueLearn("places 2;person 0 1 0 1;person 0 1 0 1;person 0 1 0 1;person 0 1 0 1;not 2 0;not 3 0;", 6, 8);
        // 1 alone knows 1, but as the first who knows 0 has led already, he leads to 0.
        dueLearn("places 2;person 0 1 0 1;person 0 1 0 1;person 0 1 0 1;person 0 1 0 1;not 0 1;not 2 0;not 3 0;", 5, 7, 8);
    }

    private static void promise29AnotherOne() {
        says(29, "and are another one, the first leads him");
        dueLearn("places 2;person 0 1 0 1;not 0 0;", 1, 1);
        dueLearn("places 2;person 0 1 0 1;person 0 1 0 1;not 0 0;not 1 1;", 2, 4);
    }

    private static void promise29NextDay() {
        says(29, "he knows it from the next DAY on.");
        dueLearn("places 3;person 0 1 0 1;person 0 1 0 1;not 1 0;not 1 1;not 1 2;", 3, 4, 5, 6);
    }

    private static void promise29Together() {
        says(29, "LEARNING: how many PLACES all know together behind so many DAYS");
        dueLearn("", 0, 0);
        dueLearn("places 12;" + "person 0 1 0 1;".repeat(10), 120, 120);
        // From one who knows it to ten: 2, 4, 8, then all.
        StringBuilder ten = new StringBuilder("places 2;" + "person 0 1 0 1;".repeat(10));
        for (int p = 1; p < 10; p++) {
            ten.append("not ").append(p).append(" 0;");
        }
        dueLearn(ten.toString(), 11, 12, 14, 18, 20, 20);
        due("soon", Checks.of(ten.toString()).soon(), 4);
    }

    private static void promise29Days() {
        says(29, "behind so many DAYS (0 to 99)");
        LedStrangers x = Checks.of("places 2;person 0 1 0 1;person 0 1 0 1;not 1 0;");
        dueBetween("learn", ILLEGAL, 0, 99, x::learn);
        due("none", x.learn(0), 3);
        due("one", x.learn(1), 4);
        due("99", x.learn(99), 4);
        due("nothing of it stays", x.learn(0), 3);
        due("nothing of it stays", x.person(1, 4), 2);
        LedStrangers bare = new LedStrangers();
        dueRefused("learn without PEOPLE", ILLEGAL, new int[] {-1, 100}, bare::learn);
    }

    private static void promise30Soon() {
        says(30, "How many DAYS till each knows all");
        due("no PEOPLE", new LedStrangers().soon(), 0);
        due("already", Checks.of("places 12;" + "person 0 1 0 1;".repeat(10)).soon(), 0);
        due("one", Checks.of("places 2;person 0 1 0 1;person 0 1 0 1;not 0 0;not 1 1;").soon(), 1);
        String twelve = "places 12;person 0 1 0 1;person 0 1 0 1;";
        StringBuilder all = new StringBuilder(twelve);
        for (int z = 0; z < 12; z++) {
            all.append("not 1 ").append(z).append(';');
            due("a DAY for each PLACE", Checks.of(all.toString()).soon(), z + 1);
        }
    }

    private static void promise30Never() {
        says(30, "NONE: never.");
        due("nobody else", Checks.of("person 0 1 0 1;not 0 3;").soon(), -1);
        due("nobody knows it", Checks.of("places 12;person 0 1 0 1;person 0 1 0 1;not 0 11;not 1 11;").soon(), -1);
        due("after some DAYS", Checks.of("places 12;person 0 1 0 1;person 0 1 0 1;not 0 11;not 1 11;not 1 0;").soon(), -1);
        due("each waits for the other", Checks.of("places 2;person 0 1 0 1;person 0 1 0 1;not 0 0;not 1 0;not 1 1;").soon(),
                -1);
    }

    // ---- promises 31 and 32

    private static void promise31BelowC() {
        says(31, "STRANGERS come by a DRAW below 8 that is below C");
        for (int c = 1; c <= 8; c++) {
            LedStrangers x = Checks.of("stranger 0 1 0;chance 0 " + c + ";");
            for (int draw = 0; draw < 8; draw++) {
                int comes = draw < c ? 1 : 0;
                due("C " + c + ", the draw " + draw, x.seed(0, SEEDS[draw], 2), comes);
                due("C " + c + ", the draw " + draw + " of a seed below 0", x.seed(0, SEEDS_BELOW_ZERO[draw], 2), comes);
            }
        }
    }

    private static void promise31Draws() {
        says(31, "its bits 16 to 18 (by number; C 8: no DRAW)");
        StringBuilder none = new StringBuilder("stranger 0 1 0;".repeat(8));
        StringBuilder all = new StringBuilder("stranger 0 1 0;".repeat(8));
        for (int s = 0; s < 8; s++) {
            none.append("chance ").append(s).append(' ').append(DRAWS_OF_1[s]).append(';');
            all.append("chance ").append(s).append(' ').append(DRAWS_OF_1[s] + 1).append(';');
        }
        due("as large as C", Checks.of(none.toString()).seed(0, 1, 2), 0);
        due("one below C", Checks.of(all.toString()).seed(0, 1, 2), 8);
        // Each is led to another PLACE, so that the cost tells who has come.
        for (int one = 0; one < 8; one++) {
            StringBuilder text = new StringBuilder("places 9;guide 0 1;");
            for (int s = 0; s < 8; s++) {
                text.append("street 0 ").append(s + 1).append(' ').append(s + 1).append(';');
                text.append("stranger 0 ").append(s + 1).append(" 0;");
                text.append("chance ").append(s).append(' ').append(DRAWS_OF_1[s] + (s == one ? 1 : 0)).append(';');
            }
            LedStrangers x = Checks.of(text.toString());
            due("one comes", x.seed(0, 1, 2), 1);
            due("number " + one, x.seed(0, 1, 0), 2 * (one + 1));
        }
    }

    private static void promise31NoDraw() {
        says(31, "C 8: no DRAW");
        String town = "stranger 0 1 0;stranger 0 1 0;chance 1 8;stranger 0 1 0;chance 2 7;stranger 0 1 0;";
        due("6 for the third, 6 for the fourth", Checks.of(town + "chance 3 6;").seed(0, 1, 2), 3);
        due("6 for the third, 6 for the fourth", Checks.of(town + "chance 3 7;").seed(0, 1, 2), 4);
        LedStrangers sure = Checks.of("stranger 0 1 0;".repeat(8));
        for (int seed : SEEDS) {
            due("all come", sure.seed(0, seed, 2), 8);
        }
    }

    private static void promise31Wraps() {
        says(31, "the SEED (32 bits) becomes itself times 1,103,515,245, and 12,345 (it wraps)");
        int[] seeds = {0, -1, Integer.MAX_VALUE, Integer.MIN_VALUE, Integer.MIN_VALUE + 1, Integer.MAX_VALUE - 1, 123456789};
        int[][] draws = {{0, 4, 4, 5, 2, 7, 5, 5}, {1, 1, 6, 6, 1, 2, 0, 7}, {1, 1, 6, 6, 1, 2, 0, 7}, {0, 4, 4, 5, 2, 7, 5, 5},
            {6, 6, 1, 3, 3, 3, 2, 3}, {3, 6, 0, 0, 0, 6, 2, 2}, {0, 3, 0, 1, 5, 7, 7, 1}};
        for (int c = 1; c <= 7; c++) {
            StringBuilder text = new StringBuilder("stranger 0 1 0;".repeat(8));
            for (int s = 0; s < 8; s++) {
                text.append("chance ").append(s).append(' ').append(c).append(';');
            }
            LedStrangers x = Checks.of(text.toString());
            for (int i = 0; i < seeds.length; i++) {
                int come = 0;
                for (int draw : draws[i]) {
                    come += draw < c ? 1 : 0;
                }
                due("C " + c + ", seed " + seeds[i], x.seed(0, seeds[i], 2), come);
            }
        }
    }

    private static void promise31Whats() {
        says(31, "BY LOTS by a KIND: 0 COST, 1 LEFT, 2 how many come.");
        // From the seed 1 on: 6, 6, 1. The first comes, the second does not, the third does.
        LedStrangers x = Checks.of(ROW + "person 0 1 0 9;person 0 1 0 1;guide 1 2;stranger 1 2 5;chance 0 7;stranger 1 3 5;"
                + "chance 1 6;stranger 3 0 0;chance 2 2;finds 0 2;");
        x.tell(0, 1);
        int[] cost = {90, 10, 20, 0, 10};
        for (int kind = 0; kind < 5; kind++) {
            due("cost by kind " + kind, x.seed(kind, 1, 0), cost[kind]);
            due("left by kind " + kind, x.seed(kind, 1, 1), 1);
            due("come by kind " + kind, x.seed(kind, 1, 2), 2);
        }
        // Without lots the second PERSON leads the second stranger to 3, and the third from there.
        due("a DAY without lots has all", x.day(0, 1), 0);
        due("a DAY without lots has all", x.day(0, 3), 3);
    }

    private static void promise31Refused() {
        says(31, "`int seed(int kind, int seed, int what) throws IllegalArgumentException`");
        LedStrangers x = Checks.of(TWO + "stranger 0 1 0;");
        dueBetween("seed, kind", ILLEGAL, 0, 4, kind -> x.seed(kind, 0, 0));
        dueBetween("seed, what", ILLEGAL, 0, 2, what -> x.seed(0, 0, what));
        int[] any = {0, 1, -1, Integer.MAX_VALUE, Integer.MIN_VALUE};
        for (int seed : any) {
            dueNoThrow("any seed", () -> x.seed(4, seed, 2));
        }
    }

    private static void promise32Cut() {
        says(32, "The mean COST (cut) of so many (1 to 99) SEEDS");
        // Of the seeds 0 to 98 thirteen draw 0 first: 0, 9, 14, ..
        LedStrangers x = Checks.of(TWO + "stranger 0 1 0;chance 0 1;guide 0 9;");
        due("of one", x.mean(0, 1), 90);
        due("of one", x.mean(1, 1), 0);
        due("of two", x.mean(0, 2), 45);
        due("of four", x.mean(0, 4), 22);
        due("of nine", x.mean(0, 9), 10);
        due("of ten", x.mean(0, 10), 18);
        due("of 99", x.mean(0, 99), 13 * 90 / 99);
        due("of eight, none of which draws 0", Checks.of(TWO + "stranger 0 1 0;chance 0 1;guide 0 1;").mean(1, 8), 0);
        LedStrangers dear = Checks.of(LONG_ROW + "person 0 1 0 99;".repeat(8) + "stranger 0 11 0;".repeat(8));
        due("of much", dear.mean(0, 99), 8 * 99 * 1200);
    }

    private static void promise32Wrapping() {
        says(32, "seed, seed and 1, .. (wrapping)");
        LedStrangers x = Checks.of(TWO + "stranger 0 1 0;chance 0 1;guide 0 9;");
        due("the largest", x.mean(Integer.MAX_VALUE, 1), 0);
        due("the largest, then the least", x.mean(Integer.MAX_VALUE, 2), 45);
        due("from two below", x.mean(Integer.MAX_VALUE - 1, 3), 30);
        due("from -1 on", x.mean(-1, 2), 45);
    }

    private static void promise32First() {
        says(32, "FIRST.");
        LedStrangers x = Checks.of(ROW + "person 0 1 0 9;person 0 1 0 1;guide 1 0;stranger 1 2 5;finds 0 2;");
        x.tell(0, 1);
        due("mean", x.mean(7, 3), 90);
    }

    private static void promise32Refused() {
        says(32, "`int mean(int seed, int many) throws IllegalArgumentException`");
        LedStrangers x = Checks.of(TWO + "stranger 0 1 0;");
        dueBetween("mean, many", ILLEGAL, 1, 99, many -> x.mean(5, many));
        LedStrangers bare = new LedStrangers();
        dueRefused("mean of a new object", ILLEGAL, new int[] {0, -1, 100}, many -> bare.mean(0, many));
    }

    // ---- promises 33 to 35

    private static void promise33Image() {
        says(33, "An IMAGE of told pairs: how many there are");
        LedStrangers x = Checks.of("person 0 1 0 1;".repeat(10) + "stranger 0 1 0;".repeat(8));
        for (int s = 0; s < 8; s++) {
            x.tell(s, s + 2);
        }
        due("the first", x.image(), 1);
        for (int s = 0; s < 8; s++) {
            due("telling goes on", x.tell(s, -1), s + 2);
        }
        due("the second", x.image(), 2);
        due("gone again", x.restore(), 1);
        due("and made again", x.image(), 2);
        due("all eight pairs", x.restore() + x.restore(), 1);
        for (int s = 0; s < 8; s++) {
            due("all eight pairs", x.tell(s, -1), s + 2);
        }
    }

    private static void promise33Full() {
        says(33, "-1: there are 3.");
        LedStrangers x = Checks.of("person 0 1 0 1;".repeat(5) + "stranger 0 1 0;");
        for (int i = 1; i <= 3; i++) {
            x.tell(0, i);
            due("image " + i, x.image(), i);
        }
        x.tell(0, 4);
        due("one more", x.image(), -1);
        due("one more", x.image(), -1);
        due("there are three", x.count(0), 3);
        due("what is told stays", x.tell(0, 0), 4);
        due("the latest", x.restore(), 2);
        due("is not the refused one", x.tell(0, 0), 3);
        due("there is room again", x.image(), 3);
        due("and no more", x.image(), -1);
    }

    private static void promise34Restore() {
        says(34, "All is as in the latest IMAGE, which is gone: how many are left");
        LedStrangers x = Checks.of(TWO + "person 0 1 0 1;person 0 1 0 9;stranger 0 1 0;stranger 0 1 0;");
        x.tell(0, 0);
        x.image();
        x.tell(0, 1);
        x.tell(1, 0);
        x.image();
        x.tell(1, 1);
        x.image();
        x.tell(0, -1);
        x.tell(1, -1);
        x.feed(1, 2, 3, 4, 5);
        due("two are left", x.restore(), 2);
        due("as in the third", x.tell(0, 1), 1);
        due("as in the third", x.tell(1, 1), 1);
        due("one is left", x.restore(), 1);
        due("as in the second", x.leads(4, 0, 0), 1);
        due("as in the second", x.leads(4, 1, 0), 0);
        due("none is left", x.restore(), 0);
        due("as in the first", x.tell(0, 0), 0);
        due("as in the first", x.tell(1, -1), -1);
        due("the tape is no told pair", x.count(1), 20);
        due("the town is no told pair", x.told(1), 2);
    }

    private static void promise34None() {
        says(34, "-1: there is none.");
        LedStrangers x = Checks.of("person 0 1 0 1;stranger 0 1 0;");
        x.tell(0, 0);
        due("none at first", x.restore(), -1);
        due("all stays", x.tell(0, 0), 0);
        x.image();
        x.tell(0, -1);
        x.restore();
        due("none any more", x.restore(), -1);
        due("all stays", x.tell(0, 0), 0);
        x.image();
        Checks.town(x, "person 0 1 0 1;stranger 0 1 0;");
        due("none of the town before", x.restore(), -1);
        due("a new object", new LedStrangers().restore(), -1);
    }

    private static void promise35Count() {
        says(35, "0 IMAGES, 1 bytes of the TAPE; NONE for others.");
        LedStrangers x = new LedStrangers();
        due("no images", x.count(0), 0);
        due("no bytes", x.count(1), 0);
        for (int i = 1; i <= 4; i++) {
            x.image();
            due("images", x.count(0), Math.min(i, 3));
        }
        for (int i = 1; i <= 31; i++) {
            x.feed(0, 0, 0, 0, 0);
            due("bytes", x.count(1), Math.min(20 * i, 600));
        }
        int[] others = {2, -1, 3, -2, 256, 65536, Integer.MAX_VALUE, Integer.MIN_VALUE};
        for (int what : others) {
            due("another what " + what, x.count(what), -1);
        }
        x.town(0);
        due("a town ends both", x.count(0) + x.count(1), 0);
    }

    private static void allCallsOfOneObject() {
        says(35, "An object is used for at most 512 calls after it has been made");
        LedStrangers x = new LedStrangers();
        for (int i = 1; i <= 127; i++) {
            due("feed", x.feed(0x6c617720, 0x373b2020, 0x20202020, 0x20202020, 0x20202020), 20);
            due("town", x.town(20), 0);
            due("law", x.told(4), 7);
            due("tape", x.count(1), 0);
        }
        due("the last calls", x.feed(0, 0, 0, 0, 0), 20);
        due("the last calls", x.image(), 1);
        due("the last calls", x.restore(), 0);
        due("call 512", x.town(20), -9);
    }
}

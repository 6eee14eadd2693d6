/** Promises 1 to 5, and what the terms say of a text: each sentence that has an edge, by itself. */
public final class TextEdgesTest extends Edges {
    public static void main(String[] args) {
        begin("edges of the text");
        promise1NewObject();
        promise2Order();
        promise2HowMany();
        promise2Full();
        promise3SixHundredBytes();
        promise3SixtyClauses();
        promise3Places();
        promise3Street();
        promise3StreetsAtMost();
        promise3ShortestStreet();
        promise3Person();
        promise3Not();
        promise3Stranger();
        promise3Finds();
        promise3Chance();
        promise3Sign();
        promise3Guide();
        promise3Law();
        promise3AnotherPlace();
        promise3ToldAhead();
        promise3Numbers();
        promise3Words();
        promise3Blanks();
        promise3FirstFromTheLeft();
        promise3CantStandThere();
        promise3EndsTooEarly();
        promise3NumberIsNoneSuch();
        promise3TooMany();
        promise3PlacesTooLate();
        promise3LeastOfOnePlace();
        promise3FirstBytes();
        promise3NothingOfTheOneBefore();
        promise3EmptyThen();
        promise3PairsAndImagesGone();
        promise3HowManyPeople();
        promise3FaultLessTen();
        promise3AllStays();
        promise3RefusedLength();
        promise4Fault();
        promise4Without();
        promise5Told();
        promise5AnotherWhat();
        end();
    }

    private static LedStrangers dueGood(String text, int people) {
        LedStrangers x = new LedStrangers();
        due("town of [" + text + "]", Checks.town(x, text), people);
        due("fault of [" + text + "]", x.fault(), -1);
        return x;
    }

    private static void dueFault(String text, int kind, int place) {
        LedStrangers x = new LedStrangers();
        due("town of [" + text + "]", Checks.town(x, text), kind - 10);
        due("fault of [" + text + "]", x.fault(), place);
    }

    // ---- promise 1

    private static void promise1NewObject() {
        says(1, "A TOWN without CLAUSES.");
        LedStrangers x = new LedStrangers();
        int[] told = {4, 0, 0, 0, 0};
        for (int what = 0; what < 5; what++) {
            due("told " + what, x.told(what), told[what]);
        }
        for (int a = 0; a < 4; a++) {
            for (int b = 0; b < 4; b++) {
                due("far", x.far(a, b), a == b ? 0 : -1);
                due("way", x.way(a, b, 0), a == b ? a : -1);
            }
            due("saves", x.saves(a), 0);
        }
        for (int kind = 0; kind < 5; kind++) {
            for (int what = 0; what < 5; what++) {
                due("day " + kind + " " + what, x.day(kind, what), 0);
            }
            for (int what = 0; what < 3; what++) {
                due("seed " + kind + " " + what, x.seed(kind, -1, what), 0);
            }
            due("fees " + kind, x.fees(kind), 0);
        }
        for (int what = 0; what < 2; what++) {
            due("judge " + what, x.judge(what), -1);
            due("match " + what, x.match(what), 0);
            due("where " + what, x.where(9, what), 0);
            due("many " + what, x.many(0, what), 0);
            due("count " + what, x.count(what), 0);
        }
        due("bound", x.bound(), 0);
        due("which", x.which(), 0);
        due("corner", x.corner(9), 0);
        due("other", x.other(), 0);
        due("learn", x.learn(99), 0);
        due("soon", x.soon(), 0);
        due("mean", x.mean(7, 99), 0);
        due("fault", x.fault(), -1);
        due("town of nothing on an empty tape", x.town(0), 0);
        dueSame("as a town of no bytes", Checks.state(x), Checks.state(new LedStrangers()));
        dueSame("as a town of blanks", Checks.state(Checks.of("  ")), Checks.state(new LedStrangers()));
        due("restore", x.restore(), -1);
        due("image", x.image(), 1);
    }

    // ---- promise 2

    private static void promise2Order() {
        says(2, "Twenty bytes come on the TAPE, of each number the highest first");
        int[] odd = {0x00, 0x1f, 0x21, 0x7f, 0x80, 0xa0, 0xff};
        for (int place = 0; place < 20; place++) {
            for (int sign : odd) {
                int[] number = {0x20202020, 0x20202020, 0x20202020, 0x20202020, 0x20202020};
                int shift = 24 - place % 4 * 8;
                number[place / 4] = number[place / 4] & ~(255 << shift) | sign << shift;
                LedStrangers x = new LedStrangers();
                x.feed(number[0], number[1], number[2], number[3], number[4]);
                due("a byte " + sign + " at " + place + ": town", x.town(20), -9);
                due("a byte " + sign + " at " + place + ": fault", x.fault(), place);
            }
        }
        LedStrangers blanks = new LedStrangers();
        blanks.feed(0x20202020, 0x20202020, 0x20202020, 0x20202020, 0x20202020);
        due("blanks alone", blanks.town(20), 0);
        LedStrangers two = new LedStrangers();
        two.feed(0x20202020, 0x20202020, 0x20202020, 0x20202020, 0x6c617720);
        two.feed(0x373b2020, 0x20202020, 0x20202020, 0x20202020, 0x20202020);
        due("twenty more stand behind the first", two.town(22), 0);
        due("twenty more stand behind the first", two.told(4), 7);
    }

    private static void promise2HowMany() {
        says(2, "how many there are");
        LedStrangers x = new LedStrangers();
        for (int i = 1; i <= 30; i++) {
            due("feed " + i, x.feed(0, 0, 0, 0, 0), 20 * i);
            due("count " + i, x.count(1), 20 * i);
        }
    }

    private static void promise2Full() {
        says(2, "NONE, doing nothing, if there would be more than 600");
        String text = " ".repeat(594) + "law 7;";
        LedStrangers x = new LedStrangers();
        Checks.feed(x, text);
        due("at 600", x.count(1), 600);
        for (int i = 0; i < 3; i++) {
            due("one more", x.feed(0x6c617720, 0x383b2020, -1, 0, 5), -1);
            due("still 600", x.count(1), 600);
        }
        dueThrow("town(620)", ILLEGAL, () -> x.town(620));
        due("what was there stands", x.town(600), 0);
        due("what was there stands", x.told(4), 7);
        due("then there is room", x.feed(0, 0, 0, 0, 0), 20);
        LedStrangers last = new LedStrangers();
        for (int i = 0; i < 29; i++) {
            last.feed(0, 0, 0, 0, 0);
        }
        due("up to 600 itself", last.feed(0, 0, 0, 0, 0), 600);
    }

    // ---- promise 3: what the terms say of a text

    private static void promise3SixHundredBytes() {
        says(3, "A TOWN is a text of up to 600 bytes");
        due("600 bytes", dueGood("law 1;" + " ".repeat(588) + "law 2;", 0).told(4), 2);
        due("600 bytes of one CLAUSE", dueGood("law " + "0".repeat(594) + "5;", 0).told(4), 5);
        dueGood(" ".repeat(600), 0);
        dueFault(" ".repeat(595) + "law 3", 1, 600);
        dueFault(" ".repeat(599) + ";", 1, 599);
        dueGood("", 0);
    }

    private static void promise3SixtyClauses() {
        says(3, "{ CLAUSE \";\" }, at most 60");
        dueGood("", 0);
        dueGood("law 1;", 0);
        due("sixty", dueGood("law 1;".repeat(59) + "law 2;", 0).told(4), 2);
        dueGood("law 1;".repeat(60) + " ", 0);
        dueFault("law 1;".repeat(61), 3, 360);
        dueFault("law 1;".repeat(60) + "  law 1;", 3, 362);
        due("places is one of the sixty", dueGood("places 2;" + "law 1;".repeat(59), 0).told(0), 2);
        dueFault("places 2;" + "law 1;".repeat(60), 3, 363);
        dueFault("law 1;".repeat(60) + "person 0 1 0 1;", 3, 360);
        dueFault("law 1;".repeat(60) + "law", 3, 360);
    }

    private static void promise3Places() {
        says(3, "\"places\" N (2 to 12, numbered from 0 on; 4 without; ahead of all others, once)");
        for (int n = 2; n <= 12; n++) {
            LedStrangers x = dueGood("places " + n + ";street 0 " + (n - 1) + " 7;", 0);
            due("places", x.told(0), n);
            due("from 0 to the last", x.far(0, n - 1), 7);
            dueFault("places " + n + ";guide " + n + " 0;", 2, n < 10 ? 15 : 16);
        }
        dueFault("places 0;", 2, 7);
        dueFault("places 1;", 2, 7);
        dueFault("places 13;", 2, 7);
        due("without", dueGood("street 0 3 1;", 0).told(0), 4);
        dueFault("street 0 4 1;", 2, 9);
        dueFault("law 1;places 4;", 4, 6);
        dueFault("places 4;places 4;", 4, 9);
    }

    private static void promise3Street() {
        says(3, "\"street\" A B M (M minutes, 1 to 60");
        due("1", dueGood("street 0 1 1;", 0).far(0, 1), 1);
        due("60", dueGood("street 0 1 60;", 0).far(0, 1), 60);
        due("the last ones", dueGood("street 3 2 9;", 0).far(2, 3), 9);
        dueFault("street 0 1 0;", 2, 11);
        dueFault("street 0 1 61;", 2, 11);
        dueFault("street 4 1 1;", 2, 7);
        dueFault("street 1 4 1;", 2, 9);
    }

    private static void promise3StreetsAtMost() {
        says(3, "20 at most");
        String twenty = "street 0 1 9;".repeat(19) + "street 2 3 8;";
        due("the twentieth", dueGood(twenty, 0).far(2, 3), 8);
        dueFault(twenty + "street 0 2 1;", 3, 260);
        LedStrangers again = new LedStrangers();
        for (int i = 0; i < 4; i++) {
            due("twenty in each TOWN", Checks.town(again, twenty), 0);
        }
        dueGood(twenty + "law 1;person 0 1 0 1;stranger 0 1 0;guide 0 0;sign 0 1;", 1);
    }

    private static void promise3ShortestStreet() {
        says(3, "of several between two PLACES the shortest counts");
        int[][] minutes = {{3, 7, 5}, {7, 3, 5}, {7, 5, 3}};
        for (int[] m : minutes) {
            LedStrangers same = dueGood("street 0 1 " + m[0] + ";street 0 1 " + m[1] + ";street 0 1 " + m[2] + ";", 0);
            due("the same way round", same.far(0, 1), 3);
            LedStrangers other = dueGood("street 0 1 " + m[0] + ";street 1 0 " + m[1] + ";street 0 1 " + m[2] + ";", 0);
            due("told from both ends", other.far(0, 1), 3);
            due("told from both ends, back", other.far(1, 0), 3);
        }
    }

    private static void promise3Person() {
        says(3, "\"person\" P Q T V (PEOPLE, numbered from 0 on, 10 at most: goes from P to Q, at MINUTE T, 0 to 500; "
                + "a minute is worth V, 1 to 99)");
        LedStrangers least = dueGood("person 0 1 0 1;", 1);
        due("T 0", least.person(0, 2), 0);
        due("V 1", least.person(0, 3), 1);
        LedStrangers most = dueGood("person 3 2 500 99;", 1);
        due("P 3", most.person(0, 0), 3);
        due("T 500", most.person(0, 2), 500);
        due("V 99", most.person(0, 3), 99);
        dueFault("person 4 1 0 1;", 2, 7);
        dueFault("person 1 4 0 1;", 2, 9);
        dueFault("person 0 1 501 1;", 2, 11);
        dueFault("person 0 1 0 0;", 2, 13);
        dueFault("person 0 1 0 100;", 2, 13);
        LedStrangers ten = dueGood("person 0 1 0 1;".repeat(9) + "person 0 1 0 7;", 10);
        due("the tenth is 9", ten.person(9, 3), 7);
        dueFault("person 0 1 0 1;".repeat(11), 3, 150);
    }

    private static void promise3Not() {
        says(3, "\"not\" K Z (PERSON K does not know PLACE Z; each knows all others)");
        LedStrangers x = dueGood("person 0 1 0 1;person 0 1 0 1;not 1 0;not 0 3;not 0 3;", 2);
        due("all but 3", x.person(0, 4), 0b0111);
        due("all but 0", x.person(1, 4), 0b1110);
        due("nothing", dueGood("places 2;person 0 1 0 1;not 0 0;not 0 1;", 1).person(0, 4), 0);
        due("twelve", dueGood("places 12;person 0 1 0 1;", 1).person(0, 4), 4095);
        due("all but 11", dueGood("places 12;person 0 1 0 1;not 0 11;", 1).person(0, 4), 2047);
        LedStrangers ten = dueGood("person 0 1 0 1;".repeat(10) + "not 9 2;", 10);
        due("of the last", ten.person(9, 4), 0b1011);
        due("of the one ahead", ten.person(8, 4), 15);
        dueFault("person 0 1 0 1;not 1 0;", 2, 19);
        dueFault("person 0 1 0 1;not 0 4;", 2, 21);
        dueFault("person 0 1 0 1;".repeat(10) + "not 10 0;", 2, 154);
    }

    private static void promise3Stranger() {
        says(3, "\"stranger\" X Y T (STRANGERS likewise, 8: comes to X at MINUTE T, 0 to 500, is bound for Y)");
        LedStrangers x = dueGood("stranger 0 3 0;stranger 3 0 500;", 0);
        due("T 0", x.stranger(0, 2), 0);
        due("T 500", x.stranger(1, 2), 500);
        due("X 3", x.stranger(1, 0), 3);
        due("Y 3", x.stranger(0, 1), 3);
        dueFault("stranger 4 0 0;", 2, 9);
        dueFault("stranger 0 4 0;", 2, 11);
        dueFault("stranger 0 1 501;", 2, 13);
        LedStrangers eight = dueGood("stranger 0 1 0;".repeat(7) + "stranger 0 1 9;", 0);
        due("eight", eight.told(2), 8);
        due("the eighth is 7", eight.stranger(7, 2), 9);
        dueFault("stranger 0 1 0;".repeat(9), 3, 120);
    }

    private static void promise3Finds() {
        says(3, "\"finds\" K Z (STRANGER K finds Z alone)");
        due("none", dueGood("stranger 0 1 0;", 0).stranger(0, 4), 0);
        due("0 and 3", dueGood("stranger 0 1 0;finds 0 3;finds 0 0;finds 0 3;", 0).stranger(0, 4), 0b1001);
        due("11", dueGood("places 12;stranger 0 1 0;finds 0 11;", 0).stranger(0, 4), 2048);
        LedStrangers eight = dueGood("stranger 0 1 0;".repeat(8) + "finds 7 2;", 0);
        due("of the last", eight.stranger(7, 4), 4);
        due("of the one ahead", eight.stranger(6, 4), 0);
        dueFault("stranger 0 1 0;finds 1 0;", 2, 21);
        dueFault("stranger 0 1 0;finds 0 4;", 2, 23);
        dueFault("stranger 0 1 0;".repeat(8) + "finds 8 0;", 2, 126);
    }

    private static void promise3Chance() {
        says(3, "\"chance\" K C (he comes in C of 8, 1 to 8; 8 without; the last counts)");
        due("without", dueGood("stranger 0 1 0;", 0).stranger(0, 3), 8);
        for (int c = 1; c <= 8; c++) {
            due("C", dueGood("stranger 0 1 0;chance 0 " + c + ";", 0).stranger(0, 3), c);
        }
        due("the last", dueGood("stranger 0 1 0;chance 0 2;chance 0 7;chance 0 5;", 0).stranger(0, 3), 5);
        LedStrangers eight = dueGood("stranger 0 1 0;".repeat(8) + "chance 7 1;", 0);
        due("of the last", eight.stranger(7, 3), 1);
        due("of the one ahead", eight.stranger(6, 3), 8);
        dueFault("stranger 0 1 0;chance 0 0;", 2, 24);
        dueFault("stranger 0 1 0;chance 0 9;", 2, 24);
        dueFault("stranger 0 1 0;chance 1 1;", 2, 22);
    }

    private static void promise3Sign() {
        says(3, "\"sign\" X Y (at X it tells Y)");
        String town = "street 0 3 5;stranger 0 3 0;";
        due("from 0 to 3", dueGood(town + "sign 0 3;", 0).there(0, 0), 5);
        due("at 3 it tells 0", dueGood(town + "sign 3 0;", 0).there(0, 0), -1);
        due("another beside", dueGood(town + "sign 0 3;sign 0 1;", 0).there(0, 0), 5);
        due("told again", dueGood(town + "sign 0 3;sign 0 3;", 0).there(0, 0), 5);
        dueGood("sign 0 1;".repeat(60), 0);
        dueFault("sign 4 0;", 2, 5);
        dueFault("sign 0 4;", 2, 7);
    }

    private static void promise3Guide() {
        says(3, "\"guide\" X F (GUIDES likewise, 4: waits at X, F a minute, 0 to 9)");
        for (int fee = 0; fee <= 9; fee++) {
            due("F " + fee, dueGood("street 3 0 5;stranger 3 0 0;guide 3 " + fee + ";", 0).fees(0), 10 * fee);
        }
        LedStrangers four = dueGood("street 3 0 5;stranger 3 0 0;" + "guide 0 0;".repeat(3) + "guide 3 0;", 0);
        due("four", four.told(3), 4);
        due("the fourth is 3", four.leads(0, 0, 0), 103);
        dueFault("guide 4 0;", 2, 6);
        dueFault("guide 0 10;", 2, 8);
        dueFault("guide 0 0;".repeat(5), 3, 40);
    }

    private static void promise3Law() {
        says(3, "\"law\" L (0 to 9; 0 without; the last counts)");
        due("without", dueGood("guide 0 9;", 0).told(4), 0);
        for (int l = 0; l <= 9; l++) {
            due("L", dueGood("law " + l + ";", 0).told(4), l);
        }
        due("the last", dueGood("law 3;law 9;law 0;", 0).told(4), 0);
        dueFault("law 10;", 2, 4);
    }

    private static void promise3AnotherPlace() {
        says(3, "Of two PLACES of street, person, stranger, sign the second is another one.");
        for (int z = 0; z < 4; z++) {
            dueFault("street " + z + " " + z + " 1;", 2, 9);
            dueFault("person " + z + " " + z + " 0 1;", 2, 9);
            dueFault("stranger " + z + " " + z + " 0;", 2, 11);
            dueFault("sign " + z + " " + z + ";", 2, 7);
            dueFault("sign 0" + z + " 00" + z + ";", 2, 8);
            dueGood("guide " + z + " " + z + ";", 0);
        }
        dueGood("person 0 1 0 1;person 0 1 1 1;not 0 0;not 1 1;", 2);
        dueGood("stranger 1 0 0;stranger 0 1 1;finds 0 0;finds 1 1;chance 1 1;", 0);
    }

    private static void promise3ToldAhead() {
        says(3, "K: told ahead.");
        dueFault("not 0 0;person 0 1 0 1;", 2, 4);
        dueFault("person 0 1 0 1;not 1 0;person 0 1 0 1;", 2, 19);
        dueGood("person 0 1 0 1;person 0 1 0 1;not 1 0;", 2);
        dueFault("finds 0 0;stranger 0 1 0;", 2, 6);
        dueFault("person 0 1 0 1;finds 0 0;", 2, 21);
        dueFault("chance 0 1;stranger 0 1 0;", 2, 7);
        dueFault("person 0 1 0 1;chance 0 1;", 2, 22);
        dueFault("stranger 0 1 0;not 0 0;", 2, 19);
    }

    private static void promise3Numbers() {
        says(3, "Numbers: digits, as many as stand there");
        due("zeros ahead", dueGood("law 0000000000000000000000009;", 0).told(4), 9);
        due("zeros alone", dueGood("law 3;law 0000000000;", 0).told(4), 0);
        due("zeros ahead of 500", dueGood("person 00 01 000500 0099;", 1).person(0, 2), 500);
        // 2 to the 8, 16, 31, 32, 63, 64, each and 3: what would be 3, if it wrapped.
        String[] wraps = {"259", "65539", "2147483651", "4294967299", "9223372036854775811", "18446744073709551619"};
        for (String number : wraps) {
            dueFault("law " + number + ";", 2, 4);
            dueFault("places " + number + ";", 2, 7);
            dueFault("street 0 1 " + number + ";", 2, 11);
        }
        dueFault("law " + "9".repeat(590) + ";", 2, 4);
        dueFault("law 1" + "0".repeat(590) + ";", 2, 4);
        dueFault("law 1 2;", 1, 6);
        dueFault("law +1;", 1, 4);
        dueFault("law -0;", 1, 4);
        dueFault("law 1.0;", 1, 5);
        dueFault("law 0x1;", 1, 5);
        dueFault("street 01 2;", 1, 11);
    }

    private static void promise3Words() {
        says(3, "WORDS: small letters, as many as stand there");
        String[] words = {"places", "street", "person", "not", "stranger", "finds", "chance", "sign", "guide", "law"};
        for (String word : words) {
            dueFault(word + "s 0;", 1, 0);
            dueFault(word + "z 0;", 1, 0);
            dueFault(word + "a 0;", 1, 0);
            dueFault("a" + word + " 0;", 1, 0);
            dueFault("x" + word.substring(1) + " 0;", 1, 0);
            dueFault(word.substring(0, word.length() - 1) + "x 0;", 1, 0);
            dueFault(word.substring(1) + " 0;", 1, 0);
            dueFault(word.substring(0, word.length() - 1) + " 0;", 1, 0);
            dueFault(word.substring(0, word.length() - 1) + "{ 0;", 1, 0);
            dueFault(word.substring(0, 1).toUpperCase() + word.substring(1) + " 0;", 1, 0);
            dueFault(word + word + " 0;", 1, 0);
            dueFault(word + " " + word + " 0;", 1, word.length() + 1);
            dueFault(word + "A 0;", 1, word.length());
        }
        due("a number at once behind a word", dueGood("law7;", 0).told(4), 7);
        dueFault("l aw 1;", 1, 0);
        dueFault("law 1;x", 1, 6);
    }

    private static void promise3Blanks() {
        says(3, "blanks (32) may stand ahead of all these, and at the end");
        due("many", dueGood("   law    7   ;   law   8  ;    ", 0).told(4), 8);
        due("none", dueGood("law7;law8;", 0).told(4), 8);
        LedStrangers x = dueGood("  places 2  ;person 1  0  5  6;  stranger 0  1 2 ;", 1);
        due("ahead of each number", x.person(0, 3), 6);
        int[] others = {0, 9, 10, 11, 13, 31, 33, 127, 160, 255};
        for (int sign : others) {
            String other = String.valueOf((char) sign);
            dueFault(other + "law 7;", 1, 0);
            dueFault("law" + other + "7;", 1, 3);
            dueFault("law 7" + other + ";", 1, 5);
            dueFault("law 7;" + other, 1, 6);
        }
        dueFault("la w 7;", 1, 0);
        dueFault("street 0 1 1 0;", 1, 13);
    }

    private static void promise3FirstFromTheLeft() {
        says(3, "FAULTS, the first from the left, at its first byte");
        dueFault("law 10;lax 1;", 2, 4);
        dueFault("lax 1;law 10;", 1, 0);
        dueFault("law 10", 2, 4);
        dueFault("street 0 0 61;", 2, 9);
        dueFault("street 9 9 99;", 2, 7);
        dueFault("street 0 1 61 7;", 2, 11);
        dueFault("law 1;places 99;", 4, 6);
        dueFault("guide 0 0;".repeat(4) + "guide 9 99", 3, 40);
        dueFault("guide 0 0;".repeat(4) + "law 10;guide 0 0;", 2, 44);
        dueFault("  law  123;", 2, 7);
        dueFault("  lawful 1;", 1, 2);
    }

    private static void promise3CantStandThere() {
        says(3, "1 what can't stand there");
        dueFault(";", 1, 0);
        dueFault("7;", 1, 0);
        dueFault("law 1;;", 1, 6);
        dueFault("law ;", 1, 4);
        dueFault("law law;", 1, 4);
        dueFault("law 1 law 2;", 1, 6);
        dueFault("law 1,law 2;", 1, 5);
        dueFault("person 0 1 0;", 1, 12);
        dueFault("person 0 1 0 1 0;", 1, 15);
        dueFault("street 0;", 1, 8);
        dueFault("not;", 1, 3);
        dueFault("law 1:", 1, 5);
        dueFault("law /;", 1, 4);
        dueFault("law `;", 1, 4);
    }

    private static void promise3EndsTooEarly() {
        says(3, "(at the length, if the text ends too early)");
        String text = "places 3;street 0 1 5;person 0 1 7 9;not 0 2;stranger 1 0 3;finds 0 2;chance 0 4;sign 1 2;guide 1 1;"
                + "law 3; ";
        for (int n = 0; n <= text.length(); n++) {
            String part = text.substring(0, n);
            int wordStart = Math.max(part.lastIndexOf(';'), 0) + (part.indexOf(';') < 0 ? 0 : 1);
            String clause = part.substring(wordStart);
            boolean isWhole = clause.isBlank();
            boolean isWordCut = text.charAt(Math.min(n, text.length() - 1)) >= 'a' && clause.indexOf(' ') < 0;
            if (isWhole) {
                dueGood(part, n >= text.indexOf("not") ? 1 : 0);
            } else {
                dueFault(part, 1, isWordCut ? wordStart : n);
            }
        }
        dueFault("law", 1, 3);
        dueFault("law   ", 1, 6);
        dueFault("law 1   ", 1, 8);
        dueFault("law 1;law", 1, 9);
    }

    private static void promise3NumberIsNoneSuch() {
        says(3, "2 a number that is none such (of two PLACES that are one at the second)");
        dueFault("street 0 0 1;", 2, 9);
        dueFault("street 0   0 1;", 2, 11);
        dueFault("stranger 1   1 0;", 2, 13);
        dueFault("person 2 02 0 1;", 2, 9);
        dueFault("sign 3    3;", 2, 10);
        dueFault("street 4 4 1;", 2, 7);
        dueFault("street 0 0", 2, 9);
    }

    private static void promise3TooMany() {
        says(3, "3 a CLAUSE, street, PERSON, STRANGER or GUIDE too many (at its word)");
        dueFault("law 1;".repeat(60) + " law 1;", 3, 361);
        dueFault("street 0 1 1;".repeat(20) + " street 0 1 1;", 3, 261);
        dueFault("person 0 1 0 1;".repeat(10) + " person 0 1 0 1;", 3, 151);
        dueFault("stranger 0 1 0;".repeat(8) + " stranger 0 1 0;", 3, 121);
        dueFault("guide 0 0;".repeat(4) + " guide 0 0;", 3, 41);
        dueFault("guide 0 0;".repeat(4) + "guide", 3, 40);
        dueFault("person 0 1 0 1;".repeat(10) + "person;", 3, 150);
        dueGood("person 0 1 0 1;".repeat(10) + "stranger 0 1 0;".repeat(8) + "guide 0 0;".repeat(4), 10);
    }

    private static void promise3PlacesTooLate() {
        says(3, "4 places too late, or again (at the word)");
        String[] ahead = {"street 0 1 1;", "person 0 1 0 1;", "stranger 0 1 0;", "sign 0 1;", "guide 0 0;", "law 0;"};
        for (String clause : ahead) {
            dueFault(clause + "places 4;", 4, clause.length());
            dueFault(clause + "  places", 4, clause.length() + 2);
        }
        dueFault("places 4;places 4;", 4, 9);
        dueFault("places 4;law 1;places 4;", 4, 15);
        dueGood("  places 4;", 0);
    }

    private static void promise3LeastOfOnePlace() {
        says(3, "of one the least");
        // Too many (3) and too late (4), at one word.
        dueFault("law 1;".repeat(60) + "places 4;", 3, 360);
        // No word (1) and a CLAUSE too many (3).
        dueFault("law 1;".repeat(60) + "lax 4;", 1, 360);
        dueFault("law 1;".repeat(60) + ";", 1, 360);
        dueFault("law 1;".repeat(60) + "7", 1, 360);
    }

    // ---- promise 3: what town() says itself

    private static void promise3FirstBytes() {
        says(3, "The first n bytes of the TAPE");
        LedStrangers x = new LedStrangers();
        Checks.feed(x, "law 1;law 2;oops");
        due("twelve of them", x.town(12), 0);
        due("twelve of them", x.told(4), 2);
        Checks.feed(x, "law 1;law 2;oops");
        due("six of them", x.town(6), 0);
        due("six of them", x.told(4), 1);
        Checks.feed(x, "law 1;law 2;oops");
        due("none of them", x.town(0), 0);
        due("none of them", x.told(4), 0);
        Checks.feed(x, "law 1;law 2;oops");
        due("the length is what is read", x.town(11), -9);
        due("the length is what is read", x.fault(), 11);
        Checks.feed(x, "law 1;law 2;law 345 ");
        due("all of them", x.town(20), -8);
    }

    private static void promise3NothingOfTheOneBefore() {
        says(3, "The first n bytes of the TAPE (empty then) are the TOWN");
        String full = "places 12;street 0 1 5;street 1 2 5;street 2 11 9;" + "person 0 11 0 3;person 2 0 4 5;person 1 0 5 1;"
                + "person 0 1 0 1;".repeat(5) + "stranger 0 2 0;stranger 1 0 5;stranger 11 0 0;stranger 2 1 3;"
                + "stranger 0 1 0;not 1 0;not 0 2;not 2 11;finds 0 1;finds 1 0;finds 2 2;chance 0 3;chance 1 1;sign 0 1;"
                + "sign 1 2;guide 0 4;guide 1 2;guide 2 9;law 1;";
        String middle = "places 3;street 0 1 5;street 1 2 5;person 2 1 0 3;person 0 2 0 1;stranger 0 1 0;stranger 1 2 5;"
                + "stranger 0 2 0;guide 2 1;not 1 2;";
        String bare = "street 0 1 5;street 1 2 5;person 0 1 0 3;stranger 0 2 0;";
        String[] texts = {full, middle, bare, ""};
        for (String last : texts) {
            String alone = Checks.answers(Checks.of(last));
            for (String first : texts) {
                for (String second : texts) {
                    LedStrangers x = Checks.of(first);
                    askSome(x);
                    Checks.town(x, second);
                    askSome(x);
                    Checks.town(x, last);
                    dueSame("[" + last + "] behind [" + first + "] and [" + second + "]", Checks.answers(x), alone);
                }
            }
        }
    }

    private static void askSome(LedStrangers x) {
        x.day(1, 0);
        x.match(0);
        x.many(0, 0);
        x.other();
        x.learn(3);
        x.seed(0, 1, 0);
        for (int s = 0; s < x.told(2); s++) {
            x.hand(s, 2, 0);
            x.tell(s, -1);
        }
    }

    private static void promise3EmptyThen() {
        says(3, "(empty then)");
        LedStrangers x = new LedStrangers();
        int[] reads = {0, 3, 6, 20};
        for (int n : reads) {
            Checks.feed(x, "law 1;");
            x.town(n);
            due("after " + n, x.count(1), 0);
            dueThrow("town(1) after " + n, ILLEGAL, () -> x.town(1));
            due("town(0) after " + n, x.town(0), 0);
        }
        Checks.feed(x, "law 1;law 2;law 3;  law 4;");
        x.town(6);
        due("nothing of it is read again", Checks.town(x, "law 7;"), 0);
        due("nothing of it is read again", x.told(4), 7);
    }

    private static void promise3PairsAndImagesGone() {
        says(3, "(told pairs, IMAGES gone)");
        String text = "person 0 1 0 1;stranger 0 1 0;stranger 0 1 0;";
        LedStrangers x = Checks.of(text);
        x.tell(0, 0);
        x.image();
        x.tell(1, 0);
        x.image();
        Checks.town(x, text);
        due("images", x.count(0), 0);
        due("restore", x.restore(), -1);
        due("the first pair", x.tell(0, -1), -1);
        due("the second pair", x.tell(1, -1), -1);
        x.tell(0, 0);
        x.image();
        due("gone by no bytes, too", x.town(0), 0);
        due("gone by no bytes, too", x.count(0), 0);
        Checks.town(x, text);
        due("and nothing comes back", x.tell(0, -1), -1);
    }

    private static void promise3HowManyPeople() {
        says(3, "are the TOWN (told pairs, IMAGES gone): how many PEOPLE");
        for (int people = 0; people <= 10; people++) {
            dueGood("stranger 0 1 0;guide 0 0;" + "person 0 1 0 1;".repeat(people), people);
        }
    }

    private static void promise3FaultLessTen() {
        says(3, "or the FAULT less 10");
        LedStrangers x = new LedStrangers();
        due("1", Checks.town(x, ";"), -9);
        due("2", Checks.town(x, "law 10;"), -8);
        due("3", Checks.town(x, "guide 0 0;".repeat(5)), -7);
        due("4", Checks.town(x, "law 1;places 2;"), -6);
    }

    private static void promise3AllStays() {
        says(3, "or the FAULT less 10 (all stays)");
        String town = "places 5;street 0 1 3;street 1 4 2;person 0 4 1 7;not 0 2;stranger 1 4 4;finds 0 3;chance 0 5;"
                + "sign 2 3;guide 1 6;law 3;";
        String[] faults = {"places 2;street 0 1 9;person 0 1 5 5;stranger 0 1 5;guide 0 9;law 8;;", "law 8;law 10;",
            "places 9;" + "guide 0 0;".repeat(5), "law 8;places 2;", "street 0 1 1;person 1 0 9 9;not 0 1;oops"};
        for (String fault : faults) {
            LedStrangers x = Checks.of(town);
            x.tell(0, 0);
            x.image();
            String before = Checks.state(x).replaceFirst("fault -?\\d+", "fault");
            due("a fault", Checks.town(x, fault) < 0 ? 1 : 0, 1);
            dueSame("behind a fault", Checks.state(x).replaceFirst("fault -?\\d+", "fault"), before);
            due("the image", x.restore(), 0);
            due("then a town, with nothing of the fault", Checks.town(x, "places 3;person 0 1 0 1;stranger 0 1 0;"), 1);
            due("then a town, with nothing of the fault", x.far(0, 1), -1);
            due("then a town, with nothing of the fault", x.person(0, 4), 7);
        }
    }

    private static void promise3RefusedLength() {
        says(3, "IllegalArgumentException: n is not 0 to the TAPE's bytes (it stays).");
        LedStrangers x = Checks.of("law 3;");
        dueRefused("town on an empty tape", ILLEGAL, new int[] {1, -1, 20, 600, Integer.MAX_VALUE,
            Integer.MIN_VALUE}, x::town);
        Checks.feed(x, "law 5;law 6;law 7;  ");
        String before = Checks.state(x);
        dueRefused("town on a tape of 20", ILLEGAL, new int[] {21, -1, 40, 601, -20, Integer.MAX_VALUE,
            Integer.MIN_VALUE}, x::town);
        dueSame("refused", Checks.state(x), before);
        due("the tape stays", x.count(1), 20);
        due("the tape stays", x.town(20), 0);
        due("the tape stays", x.told(4), 7);
        Checks.feed(x, " ".repeat(600));
        dueThrow("town on a full tape", ILLEGAL, () -> x.town(601));
        due("600 of 600", x.town(600), 0);
    }

    // ---- promises 4 and 5

    private static void promise4Fault() {
        says(4, "The place of the FAULT of the latest town()");
        LedStrangers x = new LedStrangers();
        Checks.town(x, "?");
        due("at the first byte", x.fault(), 0);
        Checks.town(x, "law 1;law 10;");
        due("of the latest", x.fault(), 10);
        Checks.town(x, "law 1");
        due("at the length", x.fault(), 5);
        Checks.town(x, " ".repeat(600 - 3) + "law");
        due("at the length of 600", x.fault(), 600);
        Checks.feed(x, "law");
        due("feeding leaves it", x.fault(), 600);
        dueThrow("town(21)", ILLEGAL, () -> x.town(21));
        due("a refused town() leaves it", x.fault(), 600);
    }

    private static void promise4Without() {
        says(4, "NONE without.");
        LedStrangers x = new LedStrangers();
        due("a new object", x.fault(), -1);
        Checks.town(x, "law 1;");
        due("a town", x.fault(), -1);
        Checks.town(x, "law");
        Checks.town(x, "law 1;");
        due("a town behind a fault", x.fault(), -1);
        Checks.town(x, "law");
        x.town(0);
        due("no bytes behind a fault", x.fault(), -1);
    }

    private static void promise5Told() {
        says(5, "0 PLACES, 1 PEOPLE, 2 STRANGERS, 3 GUIDES, 4 L.");
        LedStrangers full = Checks.of("places 12;" + "person 0 1 0 1;".repeat(10) + "stranger 0 1 0;".repeat(8)
                + "guide 0 0;".repeat(4) + "law 9;");
        int[] most = {12, 10, 8, 4, 9};
        LedStrangers bare = Checks.of("places 2;");
        int[] least = {2, 0, 0, 0, 0};
        for (int what = 0; what < 5; what++) {
            due("the most of " + what, full.told(what), most[what]);
            due("the least of " + what, bare.told(what), least[what]);
        }
    }

    private static void promise5AnotherWhat() {
        says(5, "IllegalArgumentException: another what (so below).");
        LedStrangers x = new LedStrangers();
        dueBetween("told", ILLEGAL, 0, 4, x::told);
    }
}

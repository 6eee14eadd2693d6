/** Promises 11 to 16, and what the terms say of a day: each sentence that has an edge, by itself. */
public final class DayEdgesTest extends Edges {
    public static void main(String[] args) {
        begin("edges of the day");
        promise11AtHome();
        promise11AtEachPlace();
        promise11WithoutWay();
        promise11FirstMinute();
        promise11LastMinute();
        promise11LastMinuteOfGuides();
        promise11StrangersByNumber();
        promise11FromHisMinuteOn();
        promise11FirstThatCanBe();
        promise11Sign();
        promise11Half();
        promise11WhoKnows();
        promise11WhoLeadsNobody();
        promise11NobodyOfManyCan();
        promise11GuidesWithAWay();
        promise11FirstKind();
        promise11ChooseKind();
        promise11GateKind();
        promise11HalfKind();
        promise11ToldKind();
        promise11Law();
        promise11LawLeavesHim();
        promise11WhereHeLeavesHim();
        promise11GuideAllTheWay();
        promise11GuideFreeAgain();
        promise11GuideCosts();
        promise11Lost();
        promise11Cost();
        promise11Left();
        promise11Waited();
        promise11Whats();
        promise11Refused();
        promise12Leads();
        promise12NoneSuch();
        promise12Refused();
        promise13There();
        promise13Left();
        promise13Refused();
        promise14Lost();
        promise15Fees();
        promise16Judge();
        promise16Refused();
        end();
    }

    private static void dueThere(String text, int minute) {
        due("there of the first by FIRST in [" + text + "]", Checks.of(text).there(0, 0), minute);
    }

    // ---- promise 11: where people are

    private static void promise11AtHome() {
        says(11, "A PERSON is at P at T");
        dueThere(ROW + "person 1 0 7 1;stranger 1 2 0;", 12);
        dueThere(ROW + "person 1 0 7 1;stranger 1 2 7;", 12);
        dueThere(ROW + "person 1 0 7 1;stranger 1 2 8;", -1);
        due("he waits for him", Checks.of(ROW + "person 1 0 7 1;stranger 1 2 6;").day(0, 2), 1);
        due("not at all", Checks.of(ROW + "person 1 0 7 1;stranger 1 2 7;").day(0, 2), 0);
        dueThere(ROW + "person 1 0 0 1;stranger 1 2 0;", 5);
        dueThere(ROW + "person 1 0 500 1;stranger 1 2 500;", 505);
    }

    private static void promise11AtEachPlace() {
        says(11, "along the WAY to Q, at each PLACE of it in the MINUTE in which he comes there, Q too; then he is gone.");
        int[] passes = {10, 15, 20, 25};
        for (int z = 1; z <= 3; z++) {
            String start = ROW + "person 0 3 10 1;stranger " + z + " 0 ";
            dueThere(start + (passes[z] - 1) + ";", passes[z] + 5 * z);
            dueThere(start + passes[z] + ";", passes[z] + 5 * z);
            dueThere(start + (passes[z] + 1) + ";", -1);
        }
        // Two ways as far from 0 to 3: he is at 1, and never at 2.
        String square = "street 0 1 5;street 1 3 5;street 0 2 5;street 2 3 5;person 0 3 0 1;";
        dueThere(square + "stranger 1 0 0;", 10);
        dueThere(square + "stranger 2 0 0;", -1);
    }

    private static void promise11WithoutWay() {
        says(11, "One without a WAY never is anywhere.");
        LedStrangers x = Checks.of("street 0 1 5;street 2 3 5;person 0 2 0 1;stranger 0 1 0;stranger 2 3 0;");
        x.tell(0, 0);
        x.tell(1, 0);
        for (int kind = 0; kind < 5; kind++) {
            due("led by kind " + kind, x.day(kind, 3), 0);
            due("left by kind " + kind, x.day(kind, 1), 2);
            due("lost by kind " + kind, x.lost(kind, 0), 0);
        }
    }

    // ---- promise 11: minutes and strangers

    private static void promise11FirstMinute() {
        says(11, "A DAY goes MINUTE by MINUTE, 0 to 999");
        LedStrangers x = Checks.of(TWO + "person 0 1 0 1;stranger 0 1 0;");
        due("in minute 0", x.there(0, 0), 5);
        due("in minute 0", x.day(0, 2), 0);
        LedStrangers guide = Checks.of(TWO + "guide 0 1;stranger 0 1 0;");
        due("in minute 0, by a guide", guide.there(0, 0), 5);
        LedStrangers sign = Checks.of(TWO + "sign 0 1;stranger 0 1 0;");
        due("in minute 0, by a sign", sign.there(0, 0), 5);
    }

    private static void promise11LastMinute() {
        says(11, "A DAY goes MINUTE by MINUTE, 0 to 999");
        LedStrangers last = Checks.of(LONG_ROW + "person 0 11 459 1;stranger 9 8 500;");
        due("at 9 in minute 999", last.there(0, 0), 1059);
        due("at 9 in minute 999, waited", last.day(0, 2), 499);
        due("at 9 in minute 999, left", last.day(0, 1), 0);
        LedStrangers late = Checks.of(LONG_ROW + "person 0 11 460 1;stranger 9 8 500;");
        due("at 9 in minute 1000", late.there(0, 0), -1);
        due("at 9 in minute 1000, waited", late.day(0, 2), 500);
        due("at 9 in minute 1000, left", late.day(0, 1), 1);
        due("at 9 in minute 1000, nothing lost", late.day(0, 0), 0);
    }

    private static void promise11LastMinuteOfGuides() {
        says(11, "A DAY goes MINUTE by MINUTE, 0 to 999");
        String row = "places 6;street 0 1 60;street 1 2 60;street 2 3 60;street 3 4 60;street 4 5 10;guide 0 1;";
        LedStrangers last = Checks.of(row + "stranger 0 5 499;stranger 0 5 499;");
        due("a guide who is back in minute 999", last.there(0, 1), 1249);
        due("a guide who is back in minute 999", last.fees(0), 1000);
        due("a guide who is back in minute 999", last.day(0, 2), 500);
        LedStrangers late = Checks.of(row + "stranger 0 5 500;stranger 0 5 500;");
        due("a guide who is back in minute 1000", late.there(0, 1), -1);
        due("a guide who is back in minute 1000", late.fees(0), 500);
        due("a guide who is back in minute 1000", late.day(0, 2), 500);
    }

    private static void promise11StrangersByNumber() {
        says(11, "in each STRANGERS by number");
        // The second came earlier, but in minute 9 the first asks first; back at 1 in minute 29 he is asked again.
        LedStrangers x = Checks.of(ROW + "person 1 0 9 1;stranger 1 3 5;stranger 1 2 0;");
        due("the first", x.there(0, 0), 19);
        due("the second", x.there(0, 1), 34);
        due("waited", x.day(0, 2), 4 + 29);
        due("lost", x.day(0, 0), 30);
    }

    private static void promise11FromHisMinuteOn() {
        says(11, "One who waits (at X from T on)");
        LedStrangers x = Checks.of(TWO + "guide 0 0;stranger 0 1 500;");
        due("from T on", x.there(0, 0), 505);
        due("from T on", x.day(0, 2), 0);
        dueThere(TWO + "person 0 1 6 1;stranger 0 1 7;", -1);
        dueThere(TWO + "person 0 1 7 1;stranger 0 1 7;", 12);
        dueThere(TWO + "sign 0 1;stranger 0 1 500;", 505);
    }

    private static void promise11FirstThatCanBe() {
        says(11, "does the first of these that can be (who comes to Y by it is THERE, then)");
        LedStrangers sign = Checks.of(ROW + "sign 1 3;stranger 1 3 5;person 0 1 0 9;guide 1 9;finds 0 2;");
        sign.tell(0, 0);
        for (int kind = 0; kind < 5; kind++) {
            due("first the sign, by kind " + kind, sign.there(kind, 0), 15);
            due("first the sign, by kind " + kind, sign.day(kind, 3), 0);
            due("first the sign, by kind " + kind, sign.day(kind, 0), 0);
        }
        LedStrangers half = Checks.of(ROW + "stranger 1 3 5;person 0 1 0 9;guide 1 9;finds 0 2;finds 0 3;");
        due("then what he finds", half.day(3, 3), 0);
        due("then what he finds", half.there(3, 0), 15);
        due("then what he finds", half.day(3, 0), 0);
        says(11, "he is led.");
        LedStrangers led = Checks.of(ROW + "stranger 1 3 5;person 0 1 0 9;guide 1 9;finds 0 3;sign 1 0;sign 3 1;");
        due("then he is led", led.leads(3, 0, 0), 0);
        due("then he is led", led.there(3, 0), 15);
        says(11, "does the first of these that can be");
        LedStrangers apart = Checks.of("sign 0 3;stranger 0 3 0;finds 0 3;finds 0 1;guide 0 1;person 0 1 0 1;");
        for (int kind = 0; kind < 5; kind++) {
            due("nothing can be without a WAY, by kind " + kind, apart.day(kind, 2), 1000);
        }
    }

    private static void promise11Sign() {
        says(11, "a sign where he is tells Y: he goes the WAY alone");
        LedStrangers x = Checks.of(ROW + "sign 0 3;stranger 0 3 7;stranger 0 2 7;stranger 1 3 7;");
        for (int kind = 0; kind < 5; kind++) {
            due("it tells Y", x.there(kind, 0), 22);
            due("it tells another PLACE", x.there(kind, 1), -1);
            due("it is elsewhere", x.there(kind, 2), -1);
            due("nobody leads", x.leads(kind, 0, 0), -1);
        }
        // Where the law ends there is a sign; a sign that he is led past does not hold him.
        dueThere(SHORT_STREETS + "person 0 1 0 1;stranger 0 11 0;law 3;sign 3 11;", 55);
        LedStrangers at = Checks.of(SHORT_STREETS + "person 0 1 0 1;stranger 0 11 0;law 3;sign 3 11;");
        due("where he is left", at.day(0, 3), 1);
        due("where he is left", at.day(0, 0), 15 + 10 - 5);
        LedStrangers past = Checks.of(SHORT_STREETS + "person 0 1 0 1;stranger 0 11 0;law 3;sign 4 11;");
        due("past it", past.day(0, 3), 4);
        due("past it", past.day(0, 0), 55 + 50 - 5);
    }

    private static void promise11Half() {
        says(11, "(HALF:) he finds the next PLACE of the WAY to Y: he goes there alone, and waits there");
        String square = "street 0 1 5;street 1 3 5;street 0 2 5;street 2 3 5;stranger 0 3 0;";
        LedStrangers other = Checks.of(square + "finds 0 2;finds 0 3;");
        due("as far by 2, but the WAY goes by 1", other.day(3, 2), 1000);
        LedStrangers next = Checks.of(square + "finds 0 1;finds 0 2;");
        due("there he waits", next.day(3, 2), 995);
        due("there he waits", next.day(3, 1), 1);
        LedStrangers both = Checks.of(square + "finds 0 1;finds 0 3;");
        due("and finds the next one", both.there(3, 0), 10);
        due("and finds the next one", both.day(3, 2), 0);
        for (int kind : new int[] {0, 1, 2, 4}) {
            due("not by kind " + kind, both.day(kind, 2), 1000);
        }
        LedStrangers here = Checks.of(square + "finds 0 0;");
        due("where he is does not help", here.day(3, 2), 1000);
        LedStrangers asks = Checks.of(ROW + "person 2 1 9 1;stranger 0 3 0;finds 0 1;finds 0 2;");
        due("he waits at 2 in minute 10, who was there in 9", asks.there(3, 0), -1);
        LedStrangers meets = Checks.of(ROW + "person 2 1 10 1;stranger 0 3 0;finds 0 1;finds 0 2;");
        due("he waits at 2 from minute 10 on", meets.there(3, 0), 15);
    }

    private static void promise11WhoKnows() {
        says(11, "Who can lead: PEOPLE who are there in this MINUTE, know Y");
        dueThere(ROW + "person 1 0 0 1;not 0 3;stranger 1 3 0;", -1);
        dueThere(ROW + "person 1 0 0 1;not 0 0;not 0 1;not 0 2;stranger 1 3 0;", 10);
        dueThere(ROW + "person 1 0 0 1;person 1 0 0 1;not 0 3;stranger 1 3 0;", 10);
        LedStrangers x = Checks.of(ROW + "person 1 0 0 1;person 1 0 0 1;not 0 3;stranger 1 3 0;");
        due("the second knows it", x.leads(0, 0, 0), 1);
    }

    private static void promise11WhoLeadsNobody() {
        says(11, "lead nobody, and have a WAY from there to Y and from Y to Q");
        LedStrangers same = Checks.of(TWO + "person 0 1 0 1;stranger 0 1 0;stranger 0 1 0;");
        due("in one MINUTE", same.there(0, 1), -1);
        LedStrangers past = Checks.of(ROW + "person 0 3 0 1;stranger 0 3 0;stranger 1 3 0;");
        due("while he leads", past.there(0, 1), -1);
        LedStrangers left = Checks.of(ROW + "person 0 3 0 1;stranger 0 1 0;stranger 1 2 0;");
        due("where he leaves one", left.there(0, 1), 10);
        due("where he leaves one, on his own WAY", left.day(0, 0), 0);
        LedStrangers apart = Checks.of("street 0 1 5;street 2 3 5;person 0 1 0 1;stranger 0 2 0;");
        due("no WAY to Y", apart.there(0, 0), -1);
    }

    private static void promise11NobodyOfManyCan() {
        says(11, "Who can lead");
        StringBuilder text = new StringBuilder(TWO + "person 0 1 0 1;".repeat(10) + "stranger 0 1 0;".repeat(8));
        for (int p = 0; p < 10; p++) {
            text.append("not ").append(p).append(" 1;");
        }
        text.append("guide 1 1;".repeat(4));
        LedStrangers x = Checks.of(text.toString());
        for (int kind = 0; kind < 5; kind++) {
            due("left by kind " + kind, x.day(kind, 1), 8);
            due("waited by kind " + kind, x.day(kind, 2), 8000);
            due("cost by kind " + kind, x.day(kind, 0), 0);
        }
        // Nine are there in another minute, or elsewhere; the tenth is there.
        LedStrangers last = Checks.of(TWO + "person 0 1 1 1;".repeat(5) + "person 1 0 2 1;".repeat(4)
                + "person 0 1 0 1;stranger 0 1 0;");
        for (int kind = 0; kind < 4; kind++) {
            due("the last by kind " + kind, last.leads(kind, 0, 0), 9);
        }
    }

    private static void promise11GuidesWithAWay() {
        says(11, "GUIDES there who are free (with a WAY to Y)");
        LedStrangers x = Checks.of("street 0 1 5;street 2 3 5;guide 0 1;guide 2 1;stranger 0 2 0;stranger 0 1 0;"
                + "stranger 0 1 0;stranger 1 0 5;");
        due("no WAY", x.there(0, 0), -1);
        due("there", x.leads(0, 1, 0), 100);
        due("free again in minute 10", x.there(0, 2), 15);
        due("at Y no guide waits", x.there(0, 3), -1);
        LedStrangers two = Checks.of(TWO + "guide 0 9;guide 0 1;stranger 0 1 0;stranger 0 1 0;stranger 0 1 10;");
        due("the first by number", two.leads(0, 0, 0), 100);
        due("the other is free", two.leads(0, 1, 0), 101);
        due("both are free again", two.leads(0, 2, 0), 100);
    }

    // ---- promise 11: kinds

    private static void promise11FirstKind() {
        says(11, "KINDS of asking: 0 FIRST: PEOPLE by number, then GUIDES");
        LedStrangers x = Checks.of(ROW + "guide 1 0;person 0 1 0 99;person 0 1 0 1;stranger 1 2 5;stranger 1 2 5;"
                + "stranger 1 2 5;stranger 1 2 6;");
        // In minute 15 all three are back at 1.
        int[] leaders = {0, 1, 100, 0};
        for (int s = 0; s < 4; s++) {
            due("who leads " + s, x.leads(0, s, 0), leaders[s]);
        }
        due("back in minute 15", x.there(0, 3), 20);
    }

    private static void promise11ChooseKind() {
        says(11, "1 CHOOSE: of PEOPLE the one who loses least by it (V times minutes more), of these the first, then GUIDES");
        // At 1 in minute 5: who goes to 3 comes 4 minutes later by it, who stays at 1 10 minutes.
        String town = "street 0 1 5;street 1 2 5;street 2 3 5;street 1 3 6;stranger 1 2 5;guide 1 0;";
        due("20 and 10", Checks.of(town + "person 0 3 0 5;person 0 1 0 1;").leads(1, 0, 0), 1);
        due("20 and 20", Checks.of(town + "person 0 3 0 5;person 0 1 0 2;").leads(1, 0, 0), 0);
        due("20 and 30", Checks.of(town + "person 0 3 0 5;person 0 1 0 3;").leads(1, 0, 0), 0);
        due("20 and 20, the other way round", Checks.of(town + "person 0 1 0 2;person 0 3 0 5;").leads(1, 0, 0), 0);
        due("30 and 20", Checks.of(town + "person 0 1 0 3;person 0 3 0 5;").leads(1, 0, 0), 1);
        due("of three the middle one", Checks.of(town + "person 0 1 0 3;person 0 1 0 1;person 0 1 0 1;").leads(1, 0, 0), 1);
        due("a guide for nothing comes last", Checks.of(town + "person 0 1 0 99;").leads(1, 0, 0), 0);
        due("then guides", Checks.of(town + "person 0 1 0 1;not 0 2;").leads(1, 0, 0), 100);
        due("nothing to lose is the least", Checks.of(town + "person 0 1 0 1;person 0 2 0 99;").leads(1, 0, 0), 1);
    }

    private static void promise11GateKind() {
        says(11, "2 GATE: GUIDES by number, then PEOPLE by number");
        LedStrangers x = Checks.of(ROW + "guide 1 9;guide 1 0;person 0 1 0 9;person 0 1 0 1;stranger 1 2 5;stranger 1 2 5;"
                + "stranger 1 2 5;stranger 1 2 5;");
        int[] leaders = {100, 101, 0, 1};
        for (int s = 0; s < 4; s++) {
            due("who leads " + s, x.leads(2, s, 0), leaders[s]);
        }
    }

    private static void promise11HalfKind() {
        says(11, "3 HALF: as FIRST");
        LedStrangers x = Checks.of(ROW + "guide 1 0;person 0 1 0 99;person 0 1 0 1;stranger 1 2 5;stranger 1 2 5;"
                + "stranger 1 2 5;");
        int[] leaders = {0, 1, 100};
        for (int s = 0; s < 3; s++) {
            due("who leads " + s, x.leads(3, s, 0), leaders[s]);
        }
    }

    private static void promise11ToldKind() {
        says(11, "4 TOLD: the PERSON told for him alone");
        LedStrangers x = Checks.of(ROW + "guide 1 0;person 0 1 0 9;person 0 1 0 1;person 0 1 9 1;stranger 1 2 5;");
        due("nobody told", x.there(4, 0), -1);
        x.tell(0, 1);
        due("the second", x.leads(4, 0, 0), 1);
        x.tell(0, 2);
        due("the third, who comes later", x.there(4, 0), 19);
        due("the third, who comes later", x.day(4, 2), 9);
        LedStrangers not = Checks.of(ROW + "guide 1 0;person 0 1 0 9;person 0 1 0 1;not 0 2;stranger 1 2 5;");
        not.tell(0, 0);
        due("who does not know", not.day(4, 1), 1);
        due("other kinds don't heed who is told", not.leads(0, 0, 0), 1);
    }

    // ---- promise 11: leading

    private static void promise11Law() {
        says(11, "A PERSON who leads goes with him along the WAY to Y, L PLACES of it at most (L 0: all)");
        int[] times = {1, 11, 6, 4, 3, 3, 2, 2, 2, 2};
        for (int law = 0; law <= 9; law++) {
            LedStrangers x = Checks.of(SHORT_STREETS + "person 0 1 0 1;stranger 0 11 0;law " + law + ";");
            due("how often by the law " + law, x.day(0, 3), times[law]);
            due("there by the law " + law, x.there(0, 0), 55);
            due("lost by the law " + law, x.lost(0, 0), 55 + 50 - 5);
        }
        LedStrangers just = Checks.of(ROW + "person 0 1 0 1;stranger 0 3 0;law 3;");
        due("as many PLACES as there are", just.day(0, 3), 1);
        LedStrangers more = Checks.of(ROW + "person 0 1 0 1;stranger 0 3 0;law 4;");
        due("more PLACES than there are", more.day(0, 3), 1);
    }

    private static void promise11LawLeavesHim() {
        says(11, "The STRANGER is THERE, or waits on where he was left, from that MINUTE on.");
        // In minute 5 the first stranger asks first; who was left at 1 waits till minute 15.
        LedStrangers x = Checks.of(ROW + "stranger 1 0 5;stranger 0 3 0;person 0 3 0 1;law 1;");
        due("the first", x.there(0, 0), 10);
        due("who was left", x.there(0, 1), 25);
        due("waited", x.day(0, 2), 10);
        due("led", x.day(0, 3), 4);
        LedStrangers alone = Checks.of(ROW + "stranger 1 0 5;stranger 0 3 0;person 0 1 0 1;law 1;");
        due("left where his leader's errand ends, too", alone.there(0, 1), 25);
        LedStrangers end = Checks.of(LONG_ROW + "person 0 11 459 1;stranger 9 7 500;law 1;");
        due("left behind minute 999", end.there(0, 0), -1);
        due("left behind minute 999, led once", end.day(0, 3), 1);
        due("left behind minute 999, waited", end.day(0, 2), 499);
        due("left behind minute 999, lost", end.day(0, 0), 120);
        due("left behind minute 999", end.day(0, 1), 1);
    }

    private static void promise11WhereHeLeavesHim() {
        says(11, "and from there along the WAY to Q, where he is at each PLACE as before (that where he leaves him, too).");
        // He leaves one at 3 in minute 15, and is at 2 in minute 20, at 1 in 25, at 0 in 30.
        String town = ROW + "person 0 1 0 1;stranger 0 3 0;";
        due("at 3 in minute 15", Checks.of(town + "stranger 3 2 15;").there(0, 1), 20);
        due("at 3 in minute 16", Checks.of(town + "stranger 3 2 16;").there(0, 1), -1);
        due("at 2 in minute 20", Checks.of(town + "stranger 2 3 20;").there(0, 1), 25);
        due("at 2 in minute 21", Checks.of(town + "stranger 2 3 21;").there(0, 1), -1);
        due("at 1, his Q, in minute 25", Checks.of(town + "stranger 1 0 25;").there(0, 1), 30);
        due("at 1 in minute 26 he is gone", Checks.of(town + "stranger 1 0 26;").there(0, 1), -1);
        due("at 1 in minute 5 he leads", Checks.of(town + "stranger 1 0 5;").there(0, 1), 30);
        due("never at 0", Checks.of(town + "stranger 0 1 1;").there(0, 1), -1);
    }

    private static void promise11GuideAllTheWay() {
        says(11, "A GUIDE goes all the way");
        for (int law = 0; law <= 9; law++) {
            LedStrangers x = Checks.of(SHORT_STREETS + "guide 0 2;stranger 0 11 0;law " + law + ";");
            due("there by the law " + law, x.there(0, 0), 55);
            due("led by the law " + law, x.day(0, 3), 1);
        }
    }

    private static void promise11GuideFreeAgain() {
        says(11, "and is free again when he is back (as many minutes)");
        LedStrangers x = Checks.of("places 3;street 0 1 3;street 1 2 4;guide 0 2;law 1;stranger 0 2 0;stranger 0 1 13;"
                + "stranger 0 1 14;");
        due("the first", x.there(0, 0), 7);
        due("back in minute 14", x.there(0, 1), 17);
        due("back in minute 20", x.there(0, 2), 23);
        due("waited", x.day(0, 2), 1 + 6);
        LedStrangers last = Checks.of("places 3;street 0 1 3;street 1 2 4;guide 0 2;stranger 0 2 0;stranger 0 1 14;");
        due("in the MINUTE in which he is back", last.day(0, 2), 0);
    }

    private static void promise11GuideCosts() {
        says(11, "he costs F for each of all these minutes");
        for (int fee = 0; fee <= 9; fee++) {
            LedStrangers x = Checks.of("places 3;street 0 1 3;street 1 2 4;guide 0 " + fee + ";stranger 0 2 0;"
                    + "stranger 0 1 0;");
            due("F " + fee, x.day(0, 0), fee * (14 + 6));
        }
        LedStrangers late = Checks.of(LONG_ROW + "guide 0 9;stranger 0 11 500;");
        due("minutes behind 999, too", late.day(0, 0), 9 * 1320);
        LedStrangers idle = Checks.of(LONG_ROW + "guide 0 9;");
        due("nothing while he waits", idle.day(0, 0), 0);
    }

    // ---- promise 11: what is counted

    private static void promise11Lost() {
        says(11, "LOST by a PERSON: V times the minutes by which he comes to Q later than if nobody had asked.");
        LedStrangers x = Checks.of(LONG_ROW + "person 9 11 500 99;person 0 11 0 99;person 5 6 0 7;stranger 9 0 500;"
                + "stranger 0 11 0;");
        due("behind minute 999", x.lost(0, 0), 99 * (540 + 660 - 120));
        due("on his own WAY", x.lost(0, 1), 0);
        due("nobody asks him", x.lost(0, 2), 0);
        LedStrangers twice = Checks.of(ROW + "person 1 2 0 3;stranger 1 0 0;stranger 0 1 0;");
        due("asked twice", twice.lost(0, 0), 3 * 10);
    }

    private static void promise11Cost() {
        says(11, "COST: of all PEOPLE and GUIDES together.");
        LedStrangers x = Checks.of(ROW + "person 1 0 0 2;person 1 0 0 3;guide 1 4;stranger 1 3 0;stranger 1 2 0;stranger 1 2 0;");
        due("the first", x.lost(0, 0), 2 * 20);
        due("the second", x.lost(0, 1), 3 * 10);
        due("the guide", x.fees(0), 4 * 10);
        due("together", x.day(0, 0), 40 + 30 + 40);
        LedStrangers most = Checks.of(LONG_ROW + "person 0 1 0 99;".repeat(8) + "stranger 0 11 0;".repeat(8));
        due("of eight", most.day(0, 0), 8 * 99 * (660 + 600 - 60));
    }

    private static void promise11Left() {
        says(11, "LEFT are STRANGERS who are not THERE by what they began up to MINUTE 999.");
        LedStrangers all = Checks.of("stranger 0 1 0;".repeat(8));
        LedStrangers none = Checks.of(TWO + "sign 0 1;" + "stranger 0 1 500;".repeat(8));
        for (int kind = 0; kind < 5; kind++) {
            due("all", all.day(kind, 1), 8);
            due("none", none.day(kind, 1), 0);
        }
        LedStrangers sign = Checks.of(LONG_ROW + "sign 0 11;stranger 0 11 500;");
        due("there in minute 1160", sign.there(0, 0), 1160);
        due("there in minute 1160, not left", sign.day(0, 1), 0);
        String finds = "finds 0 1;finds 0 2;finds 0 3;finds 0 4;finds 0 5;finds 0 6;finds 0 7;finds 0 8;finds 0 9;finds 0 10;";
        LedStrangers begun = Checks.of(LONG_ROW + "stranger 0 10 459;" + finds);
        due("from 9 on in minute 999", begun.there(3, 0), 1059);
        due("from 9 on in minute 999", begun.day(3, 1), 0);
        LedStrangers late = Checks.of(LONG_ROW + "stranger 0 10 460;" + finds);
        due("from 9 on in minute 1000", late.there(3, 0), -1);
        due("from 9 on in minute 1000", late.day(3, 1), 1);
    }

    private static void promise11Waited() {
        says(11, "WAITED: minutes of all STRANGERS, from T on, in which they wait (to 999; the MINUTE in which one goes on "
                + "does not count).");
        due("from 0 to 999", Checks.of("stranger 0 1 0;").day(0, 2), 1000);
        due("from 500 to 999", Checks.of("stranger 0 1 500;").day(0, 2), 500);
        due("of eight", Checks.of("stranger 0 1 0;".repeat(8)).day(0, 2), 8000);
        due("none", Checks.of(TWO + "stranger 0 1 4;person 0 1 4 1;").day(0, 2), 0);
        due("one", Checks.of(TWO + "stranger 0 1 3;person 0 1 4 1;").day(0, 2), 1);
        due("to MINUTE 998", Checks.of(LONG_ROW + "stranger 9 8 500;person 0 11 459 1;").day(0, 2), 499);
        due("not while they go", Checks.of(LONG_ROW + "sign 0 11;stranger 0 11 0;").day(0, 2), 0);
        String finds = "finds 0 1;finds 0 2;finds 0 3;finds 0 4;finds 0 5;finds 0 6;finds 0 7;finds 0 8;finds 0 9;";
        due("at 9 in minute 999", Checks.of(LONG_ROW + "stranger 0 11 459;" + finds).day(3, 2), 1);
        due("at 9 in minute 1000", Checks.of(LONG_ROW + "stranger 0 11 460;" + finds).day(3, 2), 0);
    }

    private static void promise11Whats() {
        says(11, "A DAY by a KIND (0 to 4): 0 COST, 1 LEFT, 2 WAITED, 3 how often somebody is led, "
                + "4 how many are THERE by MINUTE 999.");
        LedStrangers x = Checks.of(ROW + "person 1 0 2 2;stranger 1 3 0;stranger 0 3 500;stranger 0 3 499;sign 0 1;law 1;"
                + "stranger 0 1 7;stranger 0 1 8;");
        int[] want = {2 * 20, 2, 2 + 500 + 501, 2, 3};
        for (int what = 0; what < 5; what++) {
            due("day, what " + what, x.day(0, what), want[what]);
        }
        due("in minute 999", Checks.of(LONG_ROW + "street 8 9 19;sign 0 9;stranger 0 9 500;").day(0, 4), 1);
        due("in minute 1000", Checks.of(LONG_ROW + "street 8 9 20;sign 0 9;stranger 0 9 500;").day(0, 4), 0);
        due("all of eight", Checks.of(TWO + "sign 0 1;" + "stranger 0 1 0;".repeat(8)).day(0, 4), 8);
    }

    private static void promise11Refused() {
        says(11, "`int day(int kind, int what) throws IllegalArgumentException`");
        LedStrangers x = Checks.of(ROW + "person 1 0 2 2;stranger 1 3 0;");
        dueBetween("day, kind", ILLEGAL, 0, 4, kind -> x.day(kind, 0));
        dueBetween("day, what", ILLEGAL, 0, 4, what -> x.day(4, what));
        dueThrow("day(5, 5)", ILLEGAL, () -> x.day(5, 5));
    }

    // ---- promises 12 to 16

    private static void promise12Leads() {
        says(12, "The i-th who leads a STRANGER: a PERSON, or 100 and the GUIDE");
        LedStrangers guides = Checks.of(TWO + "guide 0 0;".repeat(4) + "stranger 0 1 0;".repeat(5));
        for (int s = 0; s < 4; s++) {
            due("guide", guides.leads(2, s, 0), 100 + s);
        }
        due("the first again", guides.leads(2, 4, 0), 100);
        LedStrangers last = Checks.of(TWO + "person 1 0 0 1;".repeat(9) + "person 0 1 0 1;stranger 0 1 0;");
        due("the last PERSON", last.leads(0, 0, 0), 9);
        LedStrangers eleven = Checks.of(SHORT_STREETS + "person 0 1 0 1;person 3 4 15 1;stranger 0 11 0;law 1;");
        for (int i = 0; i < 11; i++) {
            due("at " + i, eleven.leads(0, 0, i), 0);
        }
        due("of eleven none behind", eleven.leads(0, 0, 11), -1);
        LedStrangers both = Checks.of(SHORT_STREETS + "person 3 4 15 1;person 0 1 0 1;stranger 0 5 0;law 1;");
        int[] leaders = {1, 1, 1, 0, 0, -1};
        for (int i = 0; i < 6; i++) {
            due("handed on, at " + i, both.leads(0, 0, i), leaders[i]);
        }
        LedStrangers guided = Checks.of(ROW + "person 0 1 0 1;not 0 3;person 0 1 0 1;stranger 0 3 0;law 1;sign 1 0;"
                + "guide 1 0;");
        due("by GATE first a PERSON", guided.leads(2, 0, 0), 1);
        due("by GATE then the GUIDE", guided.leads(2, 0, 1), 100);
    }

    private static void promise12NoneSuch() {
        says(12, "NONE: none such.");
        LedStrangers x = Checks.of(TWO + "person 0 1 0 1;stranger 0 1 0;stranger 0 1 0;sign 1 0;stranger 1 0 0;");
        int[] outside = {-1, 1, 2, 11, 12, 100, Integer.MAX_VALUE, Integer.MIN_VALUE};
        for (int i : outside) {
            due("of one, at " + i, x.leads(0, 0, i), -1);
        }
        due("who is left", x.leads(0, 1, 0), -1);
        due("who goes alone", x.leads(0, 2, 0), -1);
    }

    private static void promise12Refused() {
        says(12, "`int leads(int kind, int stranger, int i) throws NoSuchElementException, IllegalArgumentException`");
        LedStrangers x = Checks.of(TWO + "person 0 1 0 1;stranger 0 1 0;stranger 0 1 0;");
        dueBetween("leads, kind", ILLEGAL, 0, 4, kind -> x.leads(kind, 0, 0));
        dueBetween("leads, kind, where there is no i", ILLEGAL, 0, 4, kind -> x.leads(kind, 0, -1));
        dueBetween("leads, stranger", NOBODY, 0, 1, s -> x.leads(4, s, 0));
    }

    private static void promise13There() {
        says(13, "The MINUTE at which he is THERE (may be behind 999)");
        dueThere(TWO + "sign 0 1;stranger 0 1 0;", 5);
        dueThere(LONG_ROW + "sign 0 11;stranger 0 11 339;", 999);
        dueThere(LONG_ROW + "sign 0 11;stranger 0 11 340;", 1000);
        dueThere(LONG_ROW + "guide 0 0;stranger 0 11 500;", 1160);
        dueThere(LONG_ROW + "person 0 11 459 1;stranger 9 0 500;", 999 + 540);
    }

    private static void promise13Left() {
        says(13, "NONE: he is LEFT.");
        LedStrangers x = Checks.of(TWO + "stranger 0 1 0;finds 0 1;stranger 0 1 0;sign 1 0;");
        for (int kind = 0; kind < 5; kind++) {
            due("by kind " + kind, x.there(kind, 0), kind == 3 ? 5 : -1);
            due("by kind " + kind, x.there(kind, 1), -1);
        }
    }

    private static void promise13Refused() {
        says(13, "`int there(int kind, int stranger) throws NoSuchElementException, IllegalArgumentException`");
        LedStrangers x = Checks.of("stranger 0 1 0;".repeat(8));
        dueBetween("there, kind", ILLEGAL, 0, 4, kind -> x.there(kind, 7));
        dueBetween("there, stranger", NOBODY, 0, 7, s -> x.there(0, s));
        LedStrangers none = Checks.of("person 0 1 0 1;");
        dueThrow("there without any", NOBODY, () -> none.there(0, 0));
    }

    private static void promise14Lost() {
        says(14, "LOST by a PERSON.");
        LedStrangers x = Checks.of("street 0 1 5;" + "person 0 1 0 1;".repeat(9) + "person 0 3 0 99;stranger 0 1 0;");
        for (int kind = 0; kind < 5; kind++) {
            due("who leads on his own WAY", x.lost(kind, 0), 0);
            due("who never goes", x.lost(kind, 9), 0);
        }
        says(14, "`int lost(int kind, int person) throws NoSuchElementException, IllegalArgumentException`");
        dueBetween("lost, kind", ILLEGAL, 0, 4, kind -> x.lost(kind, 9));
        dueBetween("lost, person", NOBODY, 0, 9, p -> x.lost(0, p));
        LedStrangers none = Checks.of("stranger 0 1 0;");
        dueThrow("lost without any", NOBODY, () -> none.lost(0, 0));
    }

    private static void promise15Fees() {
        says(15, "What GUIDES get.");
        LedStrangers x = Checks.of(ROW + "guide 1 0;guide 1 9;person 0 1 0 3;stranger 1 2 5;stranger 1 2 5;stranger 1 2 5;");
        x.tell(0, 0);
        int[] fees = {90, 90, 90, 90, 0};
        for (int kind = 0; kind < 5; kind++) {
            due("fees by kind " + kind, x.fees(kind), fees[kind]);
        }
        due("PEOPLE get nothing of it", x.day(0, 0) - x.fees(0), 30);
        due("none", Checks.of(ROW + "guide 3 9;person 0 1 0 3;stranger 1 2 5;").fees(0), 0);
        says(15, "`int fees(int kind) throws IllegalArgumentException`");
        dueBetween("fees, kind", ILLEGAL, 0, 4, x::fees);
    }

    private static void promise16Judge() {
        says(16, "the first STRANGER who is LEFT by TOLD (what 0), the first whose PERSON told never leads him (1); NONE.");
        LedStrangers x = Checks.of(TWO + "person 0 1 0 1;".repeat(8) + "stranger 0 1 0;".repeat(8));
        due("nobody told", x.judge(0), 0);
        due("nobody told", x.judge(1), -1);
        for (int s = 0; s < 8; s++) {
            x.tell(s, s);
        }
        due("all led", x.judge(0), -1);
        due("all led", x.judge(1), -1);
        x.tell(7, -1);
        due("the last is told nobody", x.judge(0), 7);
        due("the last is told nobody", x.judge(1), -1);
        x.tell(7, 0);
        due("the last is told who leads the first", x.judge(0), 7);
        due("the last is told who leads the first", x.judge(1), 7);
        x.tell(0, 7);
        due("each his own", x.judge(0), -1);
        due("each his own", x.judge(1), -1);
        x.tell(3, 4);
        due("two of one", x.judge(0), 4);
        due("two of one", x.judge(1), 4);
        LedStrangers sign = Checks.of(TWO + "person 0 1 0 1;stranger 0 1 0;sign 0 1;");
        sign.tell(0, 0);
        due("by a sign he is not LEFT", sign.judge(0), -1);
        due("by a sign nobody leads", sign.judge(1), 0);
        LedStrangers none = Checks.of("person 0 1 0 1;");
        due("no STRANGERS", none.judge(0), -1);
        due("no STRANGERS", none.judge(1), -1);
        LedStrangers late = Checks.of(LONG_ROW + "person 0 11 459 1;stranger 9 7 500;law 1;");
        late.tell(0, 0);
        due("led once, but LEFT", late.judge(0), 0);
        due("led once, but LEFT", late.judge(1), -1);
    }

    private static void promise16Refused() {
        says(16, "`int judge(int what) throws IllegalArgumentException`");
        LedStrangers x = Checks.of(TWO + "person 0 1 0 1;stranger 0 1 0;");
        dueBetween("judge", ILLEGAL, 0, 1, x::judge);
    }
}

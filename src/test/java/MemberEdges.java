/** The sentences of "Terms", 1: THE MEMBER, the service, the benefit. */
final class MemberEdges extends Edges {
    private MemberEdges() {
    }

    static void all() {
        months();
        born();
        atMostEightSpans();
        fromAheadOfTo();
        payBounds();
        fromNotAheadOfBorn();
        noMonthInCommon();
        retires();
        terms();
        allMonthsOfService();
        finalPay();
        base();
        first();
        wholeInAMonth();
    }

    private static void months() {
        says("Terms 1", "MONTHS are 0 to 1799.");
        PartedPension x = told(COUPLE);
        due("whole(-1)", x.whole(-1), NONE);
        due("whole(0)", x.whole(0), 0);
        due("whole(1799), 84 years behind RETIRES", x.whole(1799), 2009);
        due("whole(1800)", x.whole(1800), NONE);
        due("whole(least)", x.whole(Integer.MIN_VALUE), NONE);
        due("whole(most)", x.whole(Integer.MAX_VALUE), NONE);
        due("RETIRES 1799", takesText("", "retire 1799;", 1).count(4), 1799);
        due("RETIRES 0", takesText("", "retire 0;", 1).count(4), 0);
        refusesText("", "retire 1800;", 2, 7);
    }

    private static void born() {
        says("Terms 1", "THE MEMBER: BORN in a MONTH (0 at first).");
        due("at first", new PartedPension().count(3), 0);
        due("born 0", takesText("born 7;", "born 0;", 1).count(3), 0);
        due("born 1799", takesText("", "born 1799;", 1).count(3), 1799);
        refusesText("born 7;", "born 1800;", 2, 5);
        refusesText("born 7;", "born 9999999;", 2, 5);
    }

    private static void atMostEightSpans() {
        says("Terms 1", "SPANS of service, at most 8:");
        due("at first", new PartedPension().count(0), 0);
        PartedPension x = takesText("", EIGHT_SPANS, 8);
        due("count(0)", x.count(0), 8);
        due("TO of the 8th", span(x, 7, 1), 8);
        refusesText(EIGHT_SPANS, "serve 20 30 1;", 3, 0);
        refusesText(EIGHT_SPANS, "per 7; serve 20 30 1;", 3, 7);
        refusesText("", EIGHT_SPANS + "serve 20 30 1;", 3, 96);
        due("8 behind born", takesText(EIGHT_SPANS, "born 0;" + EIGHT_SPANS, 9).count(0), 8);
        x.undo();
        due("none are left", x.count(0), 0);
        due("there is room again", Feeder.tell(x, "serve 20 30 1;"), 1);
    }

    private static void fromAheadOfTo() {
        says("Terms 1", "FROM a MONTH on, ahead of a MONTH TO (above FROM, 1799 at most),");
        due("FROM 0", span(takesText("", "serve 0 1 5;", 1), 0, 0), 0);
        due("TO 1799", span(takesText("", "serve 1798 1799 5;", 1), 0, 1), 1799);
        due("all of them", takesText("", "serve 0 1799 5;", 1).benefit(0), 1799);
        refusesText("", "serve 0 0 5;", 4, 0);
        refusesText("", "serve 7 7 5;", 4, 0);
        refusesText("", "serve 7 6 5;", 4, 0);
        refusesText("", "serve 1799 1799 5;", 4, 0);
        refusesText("", "serve 1798 1800 5;", 2, 11);
        refusesText("", "serve 1800 1799 5;", 2, 6);
        PartedPension x = told("serve 10 12 5;");
        due("ahead of FROM", x.service(9, 10), 0);
        due("in FROM", x.service(10, 11), 1);
        due("ahead of TO", x.service(11, 12), 1);
        due("in TO", x.service(12, 13), 0);
    }

    private static void payBounds() {
        says("Terms 1", "PAY in a month 0 to 1000000;");
        due("PAY 0", span(takesText("", "serve 5 9 0;", 1), 0, 2), 0);
        due("PAY 1000000", span(takesText("", "serve 5 9 1000000;", 1), 0, 2), 1000000);
        refusesText("", "serve 5 9 1000001;", 2, 10);
        refusesText("", "serve 5 9 9999999;", 2, 10);
    }

    private static void fromNotAheadOfBorn() {
        says("Terms 1", "FROM is not ahead of BORN;");
        due("FROM in BORN", span(takesText("born 100;", "serve 100 101 5;", 1), 0, 0), 100);
        refusesText("born 100;", "serve 99 101 5;", 4, 0);
        refusesText("born 100;", "serve 0 100 5;", 4, 0);
    }

    private static void noMonthInCommon() {
        says("Terms 1", "no two have a MONTH in common.");
        String two = "serve 10 20 5;serve 30 40 5;";
        due("up to the first one's FROM", takesText(two, "serve 9 10 5;", 1).count(0), 3);
        due("all between", takesText(two, "serve 20 30 5;", 1).benefit(0), 30);
        due("from the last one's TO on", takesText(two, "serve 40 41 5;", 1).count(0), 3);
        refusesText(two, "serve 9 11 5;", 4, 0);
        refusesText(two, "serve 19 30 5;", 4, 0);
        refusesText(two, "serve 20 31 5;", 4, 0);
        refusesText(two, "serve 39 41 5;", 4, 0);
        refusesText(two, "serve 10 20 5;", 4, 0);
        refusesText(two, "serve 11 19 5;", 4, 0);
        refusesText(two, "serve 9 41 5;", 4, 0);
        refusesText(two, "serve 0 1799 5;", 4, 0);
    }

    private static void retires() {
        says("Terms 1", "RETIRES in a MONTH (NONE at first), not ahead of BORN, not ahead of any TO.");
        due("at first", new PartedPension().count(4), NONE);
        due("in BORN", takesText("born 100;", "retire 100;", 1).count(4), 100);
        refusesText("born 100;", "retire 99;", 4, 0);
        due("in BORN", takesSet("born 100;", 0, 0, 100).count(4), 100);
        refusesSet("born 100;", 0, 0, 99);
        String two = "serve 30 40 5;serve 10 20 5;";
        due("in the last TO", takesText(two, "retire 40;", 1).count(4), 40);
        refusesText(two, "retire 39;", 4, 0);
        refusesText(two, "retire 25;", 4, 0);
        due("in the last TO", takesSet(two, 0, 0, 40).count(4), 40);
        refusesSet(two, 0, 0, 39);
        refusesSet(two, 0, 0, 20);
        due("TO in RETIRES", takesText("retire 40;", "serve 30 40 5;", 1).count(0), 1);
        refusesText("retire 40;", "serve 30 41 5;", 4, 0);
        due("not told any more", takesSet("retire 40;", 0, 0, NONE).count(4), NONE);
    }

    private static void terms() {
        says("Terms 1", "TERMS: PER 0 to 400 (200 at first),");
        term(10, "per", 400, 200);
        says("Terms 1", "NORMAL 0 to 1200 (780),");
        term(11, "normal", 1200, 780);
        says("Terms 1", "EARLY 0 to 10 (3),");
        term(12, "early", 10, 3);
        says("Terms 1", "COLA 0 to 30 (20),");
        term(13, "cola", 30, 20);
        says("Terms 1", "INTEREST 0 to 200 (30).");
        term(14, "interest", 200, 30);
    }

    private static void term(int what, String word, int most, int atFirst) {
        due("at first", new PartedPension().count(what), atFirst);
        due("behind born", told(word + " 1;born 5;").count(what), atFirst);
        due("0 by text", takesText("", word + " 0;", 1).count(what), 0);
        due("the most by text", takesText("", word + " " + most + ";", 1).count(what), most);
        refusesText("", word + " " + (most + 1) + ";", 2, word.length() + 1);
        due("0 by set", takesSet("", what, 0, 0).count(what), 0);
        due("the most by set", takesSet("", what, 0, most).count(what), most);
        refusesSet("", what, 0, most + 1);
        refusesSet("", what, 0, -1);
        refusesSet("", what, 0, Integer.MIN_VALUE);
        refusesSet("", what, 0, Integer.MAX_VALUE);
    }

    private static void allMonthsOfService() {
        says("Terms 1", "N: all MONTHS of service.");
        due("none", new PartedPension().benefit(0), 0);
        due("one", told("serve 5 6 5;").benefit(0), 1);
        due("eight SPANS", told(EIGHT_SPANS).benefit(0), 8);
        due("as many as can be", told("serve 900 1799 5;serve 0 900 5;").benefit(0), 1799);
    }

    private static void finalPay() {
        says("Terms 1", "FINAL: PAY of the last 36 of these (of all, if they are fewer) together by how many these are, downwards"
            + " (0 without).");
        due("without", new PartedPension().benefit(1), 0);
        due("of one", told("serve 0 1 7;").benefit(1), 7);
        due("3 by 2", told("serve 0 1 1;serve 1 2 2;").benefit(1), 1);
        due("of 35: 3410 by 35", told("serve 0 1 10;serve 1 35 100;").benefit(1), 97);
        due("of 36: 3510 by 36", told("serve 0 1 10;serve 1 36 100;").benefit(1), 97);
        due("of 37 the last 36", told("serve 0 1 10;serve 1 37 100;").benefit(1), 100);
        due("behind a gap: 3360 by 36", told("serve 500 530 100;serve 0 10 60;").benefit(1), 93);
        due("the most", told("serve 0 1799 1000000;").benefit(1), 1000000);
    }

    private static void base() {
        says("Terms 1", "BASE: FINAL times PER times N by 120000, downwards.");
        due("without", new PartedPension().benefit(2), 0);
        due("119600 by 120000", told("per 400;serve 0 299 1;").benefit(2), 0);
        due("120000 by 120000", told("per 400;serve 0 300 1;").benefit(2), 1);
        due("PER 0", told("per 0;serve 0 300 1000000;").benefit(2), 0);
        due("the most", told("per 400;serve 0 1799 1000000;").benefit(2), 5996666);
    }

    private static void first() {
        says("Terms 1", "FIRST: BASE times (1000 less EARLY for each month by which RETIRES less BORN is below NORMAL; 0 at least)"
            + " by 1000, downwards.");
        PartedPension x = told("born 100;serve 240 480 1000000;retire 880;");
        due("in NORMAL", x.benefit(3), 400000);
        x.set(0, 0, 879);
        due("a month below", x.benefit(3), 398800);
        x.set(0, 0, 881);
        due("a month above", x.benefit(3), 400000);
        x.set(12, 0, 10);
        x.set(0, 0, 781);
        due("99 months below by 10", x.benefit(3), 4000);
        x.set(0, 0, 780);
        due("100 months below by 10", x.benefit(3), 0);
        x.set(0, 0, 779);
        due("101 months below by 10", x.benefit(3), 0);
        x.set(12, 0, 0);
        due("EARLY 0", x.benefit(3), 400000);
        x.set(12, 0, 10);
        x.set(11, 0, 0);
        due("NORMAL 0", x.benefit(3), 400000);
        due("398 and 800 by 1000", told("serve 240 480 1000;retire 779;").benefit(3), 398);
        due("NORMAL 1200, RETIRES in BORN", told("normal 1200;retire 0;").benefit(3), 0);
    }

    private static void wholeInAMonth() {
        says("Terms 1", "WHOLE in a MONTH: 0 ahead of RETIRES (or without it); FIRST then; for each 12 full months behind RETIRES"
            + " it becomes that times (1000 and COLA) by 1000, downwards.");
        PartedPension x = told("serve 240 480 1000;retire 785;");
        int[][] due = {{784, 0}, {785, 400}, {796, 400}, {797, 408}, {808, 408}, {809, 416}, {820, 416}, {821, 424}};
        for (int[] row : due) {
            due("whole(" + row[0] + ")", x.whole(row[0]), row[1]);
        }
        x.set(13, 0, 0);
        due("COLA 0", x.whole(1799), 400);
        x.set(13, 0, 30);
        due("COLA 30", x.whole(797), 412);
        x.set(0, 0, 1799);
        due("RETIRES 1799", x.whole(1799), 400);
        due("RETIRES 1799", x.whole(1798), 0);
        x.set(0, 0, NONE);
        due("without RETIRES", x.whole(1799), 0);
        due("without RETIRES", x.whole(785), 0);
        x = told("serve 0 240 1000;normal 0;retire 1787;");
        due("the 12th month is 1799", x.whole(1799), 408);
        x.set(0, 0, 1788);
        due("11 months alone", x.whole(1799), 400);
    }
}

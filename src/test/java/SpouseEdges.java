/** The sentences of "Terms", 2: SPOUSES, SHARE, DIES, LIVES, V, ODDS, ANNUITY, OWN. */
final class SpouseEdges extends Edges {
    private static final String TEN_YEARS = "lives 10 90;lives 11 80;lives 12 70;lives 13 60;lives 14 50;"
        + "lives 15 40;lives 16 30;lives 17 20;lives 18 10;lives 19 5;";
    private static final String WED = "born 100;wed 50 200;";
    private static final String PARTED = "born 100;wed 50 200;part 260 500 shared 600;";

    private SpouseEdges() {
    }

    static void all() {
        atMostFourSpouses();
        bornInAMonth();
        wedInAMonth();
        partedInAMonth();
        portion();
        how();
        survivor();
        claims();
        monthsMarried();
        shareInAMonth();
        begin();
        dies();
        livesAtBothEnds();
        livesOfYears();
        livesDoNotRise();
        livesBetween();
        discounts();
        odds();
        annuityOfOne();
        ownOfASpouse();
        ownOfOneBornLater();
    }

    private static void atMostFourSpouses() {
        says("Terms 2", "SPOUSES, at most 4, one behind the other:");
        due("at first", new PartedPension().count(1), 0);
        PartedPension x = takesText("", FOUR_SPOUSES, 7);
        due("count(1)", x.count(1), 4);
        due("WED of the 4th", spouse(x, 3, 1), 4);
        refusesText(FOUR_SPOUSES, "wed 0 4;", 3, 0);
        refusesText(FOUR_SPOUSES, "part 5 1 apart 1; wed 0 5;", 3, 18);
        refusesText("", FOUR_SPOUSES + "wed 0 5;", 3, 83);
        due("4 behind born", takesText(FOUR_SPOUSES, "born 0;" + FOUR_SPOUSES, 8).count(1), 4);
        x.undo();
        due("none are left", x.count(1), 0);
        due("there is room again", Feeder.tell(x, "wed 0 4;"), 1);
    }

    private static void bornInAMonth() {
        says("Terms 2", "each BORN in a MONTH,");
        due("BORN 0", spouse(takesText("", "wed 0 5;", 1), 0, 0), 0);
        due("BORN 1799", spouse(takesText("", "wed 1799 1799;", 1), 0, 0), 1799);
        refusesText("", "wed 1800 1799;", 2, 4);
        due("BORN ahead of THE MEMBER", spouse(takesText("born 100;", "wed 0 100;", 1), 0, 0), 0);
    }

    private static void wedInAMonth() {
        says("Terms 2", "WED in a MONTH (not ahead of both BORN, nor of the MONTH in which the one ahead PARTED;"
            + " that one must be PARTED),");
        due("WED 0", spouse(takesText("", "wed 0 0;", 1), 0, 1), 0);
        due("WED 1799", spouse(takesText("", "wed 0 1799;", 1), 0, 1), 1799);
        refusesText("", "wed 0 1800;", 2, 6);
        due("in THE MEMBER's BORN", spouse(takesText("born 100;", "wed 50 100;", 1), 0, 1), 100);
        refusesText("born 100;", "wed 50 99;", 4, 0);
        due("in their BORN", spouse(takesText("born 100;", "wed 150 150;", 1), 0, 1), 150);
        refusesText("born 100;", "wed 150 149;", 4, 0);
        due("in the MONTH in which the one ahead PARTED", spouse(takesText(PARTED, "wed 60 260;", 1), 1, 1), 260);
        refusesText(PARTED, "wed 60 259;", 4, 0);
        refusesText(WED, "wed 60 260;", 4, 0);
        refusesText(WED, "wed 60 1799;", 4, 0);
    }

    private static void partedInAMonth() {
        says("Terms 2", "PARTED in a MONTH above that (NONE at first),");
        due("at first", spouse(told(WED), 0, 2), NONE);
        due("a month behind WED", spouse(takesText(WED, "part 201 1 shared 1;", 1), 0, 2), 201);
        refusesText(WED, "part 200 1 shared 1;", 4, 0);
        refusesText(WED, "part 199 1 shared 1;", 4, 0);
        refusesText(WED, "part 0 1 shared 1;", 4, 0);
        due("PARTED 1799", spouse(takesText(WED, "part 1799 1 shared 1;", 1), 0, 2), 1799);
        refusesText(WED, "part 1800 1 shared 1;", 2, 5);
        refusesText("wed 0 1799;", "part 1799 1 shared 1;", 4, 0);
        refusesText(PARTED, "part 270 1 shared 1;", 4, 0);
        refusesText("", "part 270 1 shared 1;", 4, 0);
        refusesText(FOUR_SPOUSES, "part 4 1 shared 1;", 4, 0);
        due("the last one", spouse(takesText(FOUR_SPOUSES, "part 5 1 shared 1;", 1), 3, 2), 5);
    }

    private static void portion() {
        says("Terms 2", "with a PORTION 0 to 1000,");
        due("0", spouse(takesText(WED, "part 201 0 shared 1;", 1), 0, 3), 0);
        due("1000", spouse(takesText(WED, "part 201 1000 shared 1;", 1), 0, 3), 1000);
        refusesText(WED, "part 201 1001 shared 1;", 2, 9);
        due("0 by set", spouse(takesSet(PARTED, 1, 0, 0), 0, 3), 0);
        due("1000 by set", spouse(takesSet(PARTED, 1, 0, 1000), 0, 3), 1000);
        refusesSet(PARTED, 1, 0, 1001);
        refusesSet(PARTED, 1, 0, -1);
    }

    private static void how() {
        says("Terms 2", "a HOW (0 SHARED, 1 APART),");
        due("shared", spouse(takesText(WED, "part 201 1 shared 1;", 1), 0, 4), 0);
        due("apart", spouse(takesText(WED, "part 201 1 apart 1;", 1), 0, 4), 1);
        refusesText(WED, "part 201 1 share 1;", 1, 11);
        refusesText(WED, "part 201 1 sharedd 1;", 1, 11);
        refusesText(WED, "part 201 1 1 1;", 1, 11);
        PartedPension x = takesSet(PARTED, 2, 0, 1);
        due("1 by set", spouse(x, 0, 4), 1);
        due("0 by set", x.set(2, 0, 0), true);
        due("0 by set", spouse(x, 0, 4), 0);
        refusesSet(PARTED, 2, 0, 2);
        refusesSet(PARTED, 2, 0, -1);
    }

    private static void survivor() {
        says("Terms 2", "a SURVIVOR 0 to 1000;");
        due("0", spouse(takesText(WED, "part 201 1 apart 0;", 1), 0, 5), 0);
        due("1000", spouse(takesText(WED, "part 201 1 apart 1000;", 1), 0, 5), 1000);
        refusesText(WED, "part 201 1 apart 1001;", 2, 17);
        due("0 by set", spouse(takesSet(PARTED, 3, 0, 0), 0, 5), 0);
        due("1000 by set", spouse(takesSet(PARTED, 3, 0, 1000), 0, 5), 1000);
        refusesSet(PARTED, 3, 0, 1001);
        refusesSet(PARTED, 3, 0, -1);
    }

    private static void claims() {
        says("Terms 2", "CLAIMS in a MONTH (0 at first).");
        due("at first", spouse(told(WED), 0, 6), 0);
        due("1799", spouse(takesText(WED, "claim 0 1799;", 1), 0, 6), 1799);
        due("ahead of all", spouse(takesText(WED, "claim 0 1;", 1), 0, 6), 1);
        due("0 again", spouse(takesText(WED + "claim 0 9;", "claim 0 0;", 1), 0, 6), 0);
        refusesText(WED, "claim 0 1800;", 2, 8);
        due("1799 by set", spouse(takesSet(WED, 4, 0, 1799), 0, 6), 1799);
        due("0 by set", spouse(takesSet(WED + "claim 0 9;", 4, 0, 0), 0, 6), 0);
        refusesSet(WED, 4, 0, 1800);
        refusesSet(WED, 4, 0, -1);
    }

    private static void married(int wed, int parted, int months) {
        PartedPension x = told("serve 10 20 5;wed 0 " + wed + ";part " + parted + " 1 apart 1;");
        due("W of " + wed + " to " + parted, spouse(x, 0, 8), months);
    }

    private static void monthsMarried() {
        says("Terms 2", "W: MONTHS of service from WED on, ahead of PARTED (0, if they are not PARTED).");
        married(10, 20, 10);
        married(9, 21, 10);
        married(11, 20, 9);
        married(10, 19, 9);
        married(10, 11, 1);
        married(9, 10, 0);
        married(9, 11, 1);
        married(19, 20, 1);
        married(19, 21, 1);
        married(20, 21, 0);
        married(0, 1799, 10);
        due("not PARTED", spouse(told("serve 10 20 5;wed 0 10;"), 0, 8), 0);
        due("not PARTED, served later", spouse(told("wed 0 10;serve 10 20 5;"), 0, 8), 0);
        due("no service", spouse(told("wed 0 10;part 20 1 apart 1;"), 0, 8), 0);
        due("two SPANS, served later", spouse(told("wed 0 5;part 35 1 apart 1;serve 10 20 5;serve 30 40 5;"), 0, 8), 15);
    }

    private static void shareInAMonth() {
        says("Terms 2", "SHARE in a MONTH: WHOLE times PORTION times W by (1000 times N), downwards (0 if N is 0).");
        PartedPension x = told(COUPLE);
        int[][] due = {{0, 0}, {4, 0}, {5, 1}, {9, 1}, {10, 2}, {499, 99}, {500, 100}, {999, 199}, {1000, 200}};
        for (int[] row : due) {
            x.set(1, 0, row[0]);
            due("PORTION " + row[0], x.paid(780, 0), row[1]);
        }
        x.set(1, 0, 500);
        due("of 408", x.paid(792, 0), 102);
        due("ahead of RETIRES", x.paid(779, 0), 0);
        due("N is 0", told("wed 0 0;part 9 1000 shared 0;retire 9;").paid(9, 0), 0);
        due("N is 0, APART", told("wed 0 0;part 9 1000 apart 0;retire 9;").own(0), 0);
    }

    private static void begin() {
        says("Terms 2", "BEGIN: the later one of RETIRES, CLAIMS.");
        PartedPension x = told(COUPLE);
        due("CLAIMS 0", spouse(x, 0, 9), 780);
        x.set(4, 0, 779);
        due("CLAIMS a month ahead", spouse(x, 0, 9), 780);
        x.set(4, 0, 780);
        due("CLAIMS alike", spouse(x, 0, 9), 780);
        x.set(4, 0, 781);
        due("CLAIMS a month behind", spouse(x, 0, 9), 781);
        x.set(4, 0, 1799);
        due("CLAIMS 1799", spouse(x, 0, 9), 1799);
    }

    private static void dies() {
        says("Terms 2", "DIES: a MONTH from which on one does not live any more (NONE at first; above BORN).");
        due("THE MEMBER at first", new PartedPension().count(5), NONE);
        due("a month above BORN", takesText("born 100;", "dies 101;", 1).count(5), 101);
        refusesText("born 100;", "dies 100;", 4, 0);
        refusesText("born 100;", "dies 99;", 4, 0);
        refusesText("", "dies 0;", 4, 0);
        due("1799", takesText("", "dies 1799;", 1).count(5), 1799);
        refusesText("", "dies 1800;", 2, 5);
        refusesText("born 1799;", "dies 1799;", 4, 0);
        due("a month above BORN by set", takesSet("born 100;", 6, 0, 101).count(5), 101);
        refusesSet("born 100;", 6, 0, 100);
        refusesSet("", 6, 0, 1800);
        due("a SPOUSE at first", spouse(told(WED), 0, 7), NONE);
        due("a SPOUSE, a month above BORN", spouse(takesText(WED, "lost 0 51;", 1), 0, 7), 51);
        refusesText(WED, "lost 0 50;", 4, 0);
        due("a SPOUSE, 1799", spouse(takesText(WED, "lost 0 1799;", 1), 0, 7), 1799);
        refusesText(WED, "lost 0 1800;", 2, 7);
        due("a SPOUSE by set", spouse(takesSet(WED, 5, 0, 51), 0, 7), 51);
        refusesSet(WED, 5, 0, 50);
        refusesSet(WED, 5, 0, 1800);
        PartedPension x = told(COUPLE + "lost 0 800;dies 900;");
        due("the SPOUSE's last month", x.paid(799, 0), 102);
        due("the SPOUSE's DIES", x.paid(800, 0), 0);
        due("THE MEMBER's last month", x.paid(899, 10), x.whole(899));
        due("THE MEMBER's DIES", x.paid(900, 10), 0);
    }

    private static void livesAtBothEnds() {
        says("Terms 2", "LIVES at an age in months: 100000 at 0, 0 at 1440 and beyond;");
        PartedPension x = told("lives 1 70000;lives 119 60000;");
        due("at 0", x.lives(0), 100000);
        due("at 1428", x.lives(1428), 60000);
        due("at 1439", x.lives(1439), 5000);
        due("at 1440", x.lives(1440), 0);
        due("at 1441", x.lives(1441), 0);
        due("at the most", x.lives(Integer.MAX_VALUE), 0);
    }

    private static void livesOfYears() {
        says("Terms 2", "at ages of years (1 to 119; 10 at most) it may be told,");
        due("at 1", takesText("", "lives 1 50000;", 1).lives(12), 50000);
        due("at 119", takesText("", "lives 119 50000;", 1).lives(1428), 50000);
        refusesText("", "lives 0 100000;", 2, 6);
        refusesText("", "lives 120 0;", 2, 6);
        PartedPension x = takesText("", TEN_YEARS, 10);
        due("ten", x.count(2), 10);
        due("the tenth", x.lives(228), 5);
        refusesText(TEN_YEARS, "lives 20 5;", 4, 0);
        refusesText(TEN_YEARS, "lives 9 90;", 4, 0);
        refusesText(TEN_YEARS, "per 7;lives 119 0;", 4, 6);
        x = takesText(TEN_YEARS, "lives 19 4;lives 10 91;lives 14 55;", 3);
        due("ten still", x.count(2), 10);
        due("in place of the last", x.lives(228), 4);
        due("in place of the first", x.lives(120), 91);
        due("in place of one between", x.lives(168), 55);
    }

    private static void livesDoNotRise() {
        says("Terms 2", "not above what is told (or these) for a lesser one, not below for a greater one;");
        due("100000", takesText("", "lives 1 100000;", 1).lives(12), 100000);
        refusesText("", "lives 1 100001;", 2, 8);
        due("0", takesText("", "lives 119 0;", 1).lives(1428), 0);
        String two = "lives 50 600;lives 60 400;";
        due("as for the lesser one", takesText(two, "lives 55 600;", 1).lives(660), 600);
        refusesText(two, "lives 55 601;", 4, 0);
        due("as for the greater one", takesText(two, "lives 55 400;", 1).lives(660), 400);
        refusesText(two, "lives 55 399;", 4, 0);
        due("ahead of both", takesText(two, "lives 49 600;", 1).lives(588), 600);
        refusesText(two, "lives 49 599;", 4, 0);
        due("behind both", takesText(two, "lives 61 400;", 1).lives(732), 400);
        refusesText(two, "lives 61 401;", 4, 0);
        due("anew, as the greater one", takesText(two, "lives 50 400;", 1).lives(600), 400);
        refusesText(two, "lives 50 399;", 4, 0);
        due("anew, as the lesser one", takesText(two, "lives 60 600;", 1).lives(720), 600);
        refusesText(two, "lives 60 601;", 4, 0);
        PartedPension x = takesText(two, "lives 40 700;lives 55 500;", 2);
        int[][] all = {{480, 700}, {600, 600}, {660, 500}, {720, 400}};
        for (int[] row : all) {
            due("the others stay, lives(" + row[0] + ")", x.lives(row[0]), row[1]);
        }
        due("anew, above itself", takesText(two, "lives 50 100000;", 1).lives(600), 100000);
        due("anew, below itself", takesText(two, "lives 60 0;", 1).lives(720), 0);
    }

    private static void livesBetween() {
        says("Terms 2", "between two that are told (or these), next to each other, on a straight line, downwards.");
        PartedPension x = new PartedPension();
        due("none told: 99930 and a part", x.lives(1), 99930);
        due("none told: half of it", x.lives(720), 50000);
        due("none told: 69 and a part", x.lives(1439), 69);
        x = told("lives 50 601;lives 60 400;lives 61 400;");
        due("told", x.lives(600), 601);
        due("a month behind: 599 and a part", x.lives(601), 599);
        due("a month ahead: 401 and a part", x.lives(719), 401);
        due("told", x.lives(720), 400);
        due("all alike", x.lives(725), 400);
        due("a month ahead of the first: 766 and a part", x.lives(599), 766);
        due("behind the last: 399 and a part", x.lives(733), 399);
    }

    private static void discounts() {
        says("Terms 2", "V: V of 0 is 1000000000; V of k and 1 is V of k times 12000 by (12000 and INTEREST), downwards.");
        PartedPension x = new PartedPension();
        long[][] due = {{0, 1000000000L}, {1, 997506234L}, {2, 995018687L}, {1799, 11199285L}};
        for (long[] row : due) {
            due("V of " + row[0], x.discount((int) row[0]), row[1]);
        }
        x.set(14, 0, 0);
        due("INTEREST 0", x.discount(1799), 1000000000);
        x.set(14, 0, 200);
        due("INTEREST 200", x.discount(2), 967481859);
        due("INTEREST 200, nothing is left", x.discount(1799), 0);
    }

    private static void odds() {
        says("Terms 2", "ODDS of one who lives in a MONTH t, for a MONTH m: 1000000000 times LIVES at m less BORN by"
            + " LIVES at t less BORN, downwards (0 if that is 0).");
        PartedPension x = told(FLAT);
        due("8333 by 8333", x.annuity(10, 1439, 1439), 1000000000L);
        due("8333 by 16666", x.annuity(10, 1438, 1439), 500000000L);
        due("8333 by 58333", x.annuity(10, 1433, 1439), 142852244L);
        due("by 0", x.annuity(10, 1440, 1440), 0);
        due("of 0", x.annuity(10, 1439, 1440), 0);
        x = told("interest 0;lives 50 0;");
        due("LIVES are 166", x.annuity(10, 599, 599), 1000000000L);
        due("LIVES told are 0", x.annuity(10, 600, 600), 0);
        due("by BORN", told("born 100;" + FLAT).annuity(10, 1538, 1539), 500000000L);
    }

    private static void annuityOfOne() {
        says("Terms 2", "ANNUITY of one at t from s on: the sum, over MONTHS m of s to 1799, of V (of m less t) times ODDS"
            + " by 1000000000, downwards.");
        PartedPension x = told("born 1000;lives 119 100000;");
        due("the last MONTH alone", x.annuity(10, 1799, 1799), 1000000000L);
        due("the last two", x.annuity(10, 1798, 1798), 1997506234L);
        due("the last of three", x.annuity(10, 1797, 1799), 995018687L);
        due("each one downwards", told("").annuity(10, 0, 1439), 18985);
        due("of all MONTHS", told("born 1000;" + FLAT).annuity(10, 1000, 1000), 800000000000L);
        due("up to the end of the line", told(FLAT).annuity(10, 780, 780), FLAT_ANNUITY);
    }

    /** THE MEMBER's ANNUITY is FLAT_ANNUITY, the SPOUSE's from 1439 on 83330000; SHARE is 0.4 times PAY. */
    private static PartedPension lateClaim(int pay) {
        return told("serve 240 480 " + pay + ";wed 0 240;part 480 1000 apart 0;retire 780;claim 0 1439;" + FLAT);
    }

    private static void ownOfASpouse() {
        says("Terms 2", "OWN of a SPOUSE: SHARE in RETIRES times ANNUITY of THE MEMBER at RETIRES from RETIRES on,"
            + " by 1000000000, downwards; that times 1000000000 by ANNUITY of the SPOUSE at RETIRES from BEGIN on,"
            + " downwards (0 if that is 0), 1000000000 at most.");
        due("SHARE is 127318", lateClaim(318295).own(0), 999995499L);
        due("SHARE is 127319", lateClaim(318298).own(0), 1000000000L);
        due("SHARE is 400000", lateClaim(1000000).own(0), 1000000000L);
        due("SHARE is 0", lateClaim(2).own(0), 0);
        due("SHARE is 1: 654 by 0.08333", lateClaim(3).own(0), 7848);
        PartedPension x = lateClaim(1000000);
        x.set(4, 0, 1440);
        due("ANNUITY is 0", x.own(0), 0);
        x.set(4, 0, 1799);
        due("ANNUITY is 0 to the end", x.own(0), 0);
        x = told(COUPLE + FLAT);
        due("65449 by 654.49996", x.own(0), 99);
    }

    private static void ownOfOneBornLater() {
        says("Terms 2", "(0 if one of both is BORN behind RETIRES.)");
        String served = "born 10;serve 240 480 100000;normal 0;retire 500;";
        due("BORN behind RETIRES", told(served + "wed 501 510;part 520 1000 apart 0;").own(0), 0);
        due("BORN in RETIRES: nothing is served while married", told(served + "wed 500 500;part 520 1000 apart 0;").own(0), 0);
        due("nothing is PAID", told(served + "wed 501 510;part 520 1000 apart 0;").paid(520, 0), 0);
    }
}

/** The sentences of the promises 11 to 18, months. */
final class MonthEdges extends Edges {
    private MonthEdges() {
    }

    static void all() {
        serviceFromOn();
        serviceOfNoMonth();
        benefits();
        benefitOfAnotherWhat();
        wholes();
        wholeOfNoMonth();
        shareInLeastTerms();
        shareOfNone();
        paidToEach();
        paidToNone();
        sums();
        sumsOfNone();
        richestOfAll();
        richestOfSeveral();
        richestOfNoMonth();
        happensInOrder();
        happensNoMore();
    }

    private static void serviceFromOn() {
        says("Promise 11", "MONTHS of service from a on, ahead of b.");
        PartedPension x = told("serve 20 30 7;serve 40 50 8;");
        int[][] due = {{0, 0, 0}, {0, 20, 0}, {0, 21, 1}, {19, 20, 0}, {20, 21, 1}, {29, 30, 1}, {29, 31, 1}, {30, 31, 0},
            {30, 40, 0}, {30, 41, 1}, {25, 45, 10}, {20, 50, 20}, {49, 1799, 1}, {50, 1799, 0}, {0, 1799, 20}, {25, 25, 0},
            {26, 25, 0}, {1799, 0, 0}, {1799, 1799, 0}};
        for (int[] row : due) {
            due("service(" + row[0] + ", " + row[1] + ")", x.service(row[0], row[1]), row[2]);
        }
        x = told("serve 0 1799 1;");
        due("as many as can be", x.service(0, 1799), 1799);
        due("none served", new PartedPension().service(0, 1799), 0);
    }

    private static void serviceOfNoMonth() {
        says("Promise 11", "NONE: a or b is no MONTH.");
        PartedPension x = told("serve 20 30 7;");
        for (int month : NO_MONTHS) {
            due("a is " + month, x.service(month, 25), NONE);
            due("b is " + month, x.service(25, month), NONE);
            due("both are " + month, x.service(month, month), NONE);
        }
    }

    private static void benefits() {
        says("Promise 12", "What 0: N, 1: FINAL, 2: BASE, 3: FIRST (0 without RETIRES).");
        PartedPension x = told("serve 240 250 1000;serve 250 280 2000;");
        due("N", x.benefit(0), 40);
        due("FINAL: 66000 by 36", x.benefit(1), 1833);
        due("BASE: 1833 by 15", x.benefit(2), 122);
        due("FIRST without RETIRES", x.benefit(3), 0);
        x.set(0, 0, 780);
        due("FIRST", x.benefit(3), 122);
        x.set(0, 0, 779);
        due("FIRST, a month early", x.benefit(3), 121);
        due("BASE stays", x.benefit(2), 122);
        x.set(0, 0, NONE);
        due("FIRST without RETIRES again", x.benefit(3), 0);
    }

    private static void benefitOfAnotherWhat() {
        says("Promise 12", "NONE for another what.");
        PartedPension x = told(COUPLE);
        for (int what : new int[] {-1, 4, 5, 10, Integer.MIN_VALUE, Integer.MAX_VALUE}) {
            due("benefit(" + what + ")", x.benefit(what), NONE);
        }
    }

    private static void wholes() {
        says("Promise 13", "WHOLE.");
        PartedPension x = told(COUPLE + "dies 781;lost 0 781;");
        due("whole(0)", x.whole(0), 0);
        due("whole(779)", x.whole(779), 0);
        due("whole(780)", x.whole(780), 400);
        due("whole(792), nobody lives", x.whole(792), 408);
        due("whole(1799)", x.whole(1799), 2009);
        x = told("per 400;cola 30;normal 0;serve 0 407 1000000;retire 407;");
        due("407 months of the most", x.whole(407), 1356666);
        due("as much as can be, 116 years later", x.whole(1799), 41839431);
    }

    private static void wholeOfNoMonth() {
        says("Promise 13", "NONE: no MONTH.");
        PartedPension x = told(COUPLE);
        for (int month : NO_MONTHS) {
            due("whole(" + month + ")", x.whole(month), NONE);
        }
    }

    private static void fraction(String text, int upper, int lower) {
        PartedPension x = told(text);
        due("upper of " + text, x.share(0, false), upper);
        due("lower of " + text, x.share(0, true), lower);
    }

    private static void shareInLeastTerms() {
        says("Promise 14", "SHARE of a SPOUSE, a fraction of WHOLE in least terms (0: 0 and 1): upper, or (under) lower number.");
        fraction(COUPLE, 1, 4);
        fraction("serve 0 3 1;wed 0 0;part 1 7 apart 0;", 7, 3000);
        fraction("serve 0 3 1;wed 0 0;part 1 999 shared 0;", 333, 1000);
        fraction("serve 0 5 1;wed 0 0;part 9 1000 shared 0;", 1, 1);
        fraction("serve 0 1799 1;wed 0 0;part 1 1 shared 0;", 1, 1799000);
        fraction("serve 0 1799 1;wed 0 0;part 1799 1 shared 0;", 1, 1000);
        fraction("serve 0 1799 1;wed 0 0;part 1798 1000 shared 0;", 1798, 1799);
        fraction("serve 0 5 1;wed 0 0;part 5 0 shared 0;", 0, 1);
        fraction("serve 0 5 1;wed 0 5;part 9 1000 shared 0;", 0, 1);
        fraction("serve 0 5 1;wed 0 0;", 0, 1);
        fraction("wed 0 0;part 9 1000 apart 0;", 0, 1);
    }

    private static void shareOfNone() {
        says("Promise 14", "NONE: there is none such.");
        due("no SPOUSE", new PartedPension().share(0, false), NONE);
        PartedPension x = told(COUPLE);
        for (int k : NOBODY) {
            due("upper of " + k, x.share(k, false), NONE);
            due("lower of " + k, x.share(k, true), NONE);
        }
        due("of THE MEMBER", x.share(10, false), NONE);
    }

    private static void paidToEach() {
        says("Promise 15", "PAID in a MONTH to a SPOUSE, to THE MEMBER (who 10), THE REST (11).");
        PartedPension x = told(COUPLE + "dies 1700;cola 0;");
        long[][] due = {{0, 0, 0, 0}, {779, 0, 0, 0}, {780, 100, 300, 0}, {1699, 100, 300, 0}, {1700, 60, 0, 340}, {1799, 60, 0, 340}};
        for (long[] row : due) {
            due("to the SPOUSE in " + row[0], x.paid((int) row[0], 0), row[1]);
            due("to THE MEMBER in " + row[0], x.paid((int) row[0], 10), row[2]);
            due("THE REST in " + row[0], x.paid((int) row[0], 11), row[3]);
        }
        x = told("serve 0 240 1000;wed 0 0;part 60 1000 shared 0;wed 0 60;part 120 800 shared 0;wed 0 120;part 180 600 shared 0;"
            + "wed 0 180;part 240 400 shared 0;retire 780;");
        int[] shares = {100, 80, 60, 40};
        for (int k = 0; k < shares.length; k++) {
            due("to SPOUSE " + k, x.paid(780, k), shares[k]);
        }
        due("to THE MEMBER of four", x.paid(780, 10), 120);
    }

    private static void paidToNone() {
        says("Promise 15", "NO_NUMBER: there are none such.");
        PartedPension x = told(COUPLE);
        for (int month : NO_MONTHS) {
            due("to the SPOUSE in " + month, x.paid(month, 0), NO_NUMBER);
            due("to THE MEMBER in " + month, x.paid(month, 10), NO_NUMBER);
            due("THE REST in " + month, x.paid(month, 11), NO_NUMBER);
        }
        for (int who : NOBODY) {
            due("to " + who, x.paid(780, who), NO_NUMBER);
        }
        due("no SPOUSE", new PartedPension().paid(780, 0), NO_NUMBER);
    }

    private static void sums() {
        says("Promise 16", "All of that from MONTH a on, ahead of b (a not above b).");
        PartedPension x = told(COUPLE + "dies 794;");
        due("of no MONTH", x.sum(0, 780, 780), 0);
        due("of one", x.sum(0, 780, 781), 100);
        due("ahead of RETIRES", x.sum(0, 0, 780), 0);
        due("from 0 on", x.sum(0, 0, 793), 1302);
        due("across DIES", x.sum(0, 793, 795), 102 + 61);
        due("to THE MEMBER", x.sum(10, 779, 793), 3906);
        due("to THE MEMBER, across DIES", x.sum(10, 793, 795), 306);
        due("THE REST", x.sum(11, 793, 796), 347 + 347);
        due("of no MONTH at the beginning", x.sum(10, 0, 0), 0);
        due("of no MONTH at the end", x.sum(11, 1799, 1799), 0);
        x = told(COUPLE + "cola 0;");
        due("ahead of 1799", x.sum(0, 1798, 1799), 100);
        due("all ahead of 1799", x.sum(10, 0, 1799), 1019 * 300);
        x = told(COUPLE + FLAT + "claim 0 1428;");
        x.set(2, 0, 1);
        due("below 0", x.sum(11, 1427, 1429), 100 - 9969);
    }

    private static void sumsOfNone() {
        says("Promise 16", "NO_NUMBER: there are none such.");
        PartedPension x = told(COUPLE);
        for (int who : new int[] {0, 10, 11}) {
            due("a a month above b", x.sum(who, 781, 780), NO_NUMBER);
            due("a far above b", x.sum(who, 1799, 0), NO_NUMBER);
            for (int month : NO_MONTHS) {
                due("a is " + month, x.sum(who, month, 1799), NO_NUMBER);
                due("b is " + month, x.sum(who, 0, month), NO_NUMBER);
                due("both are " + month, x.sum(who, month, month), NO_NUMBER);
            }
        }
        for (int who : NOBODY) {
            due("of " + who, x.sum(who, 0, 1799), NO_NUMBER);
        }
        due("no SPOUSE", new PartedPension().sum(0, 0, 1799), NO_NUMBER);
    }

    private static void richestOfAll() {
        says("Promise 17", "Who of THE MEMBER (10), SPOUSES had most ahead of a MONTH in all;");
        String served = "serve 240 480 1000;wed 0 240;part 480 510 shared 600;retire 780;cola 0;";
        PartedPension x = told(served);
        due("ahead of RETIRES", x.richest(780), 10);
        due("204 and 196", x.richest(781), 0);
        x.set(4, 0, 781);
        due("0 and 400", x.richest(781), 10);
        due("204 and 596", x.richest(782), 10);
        due("50 times 204, 400 and 50 times 196", x.richest(831), 10);
        due("51 times 204, 400 and 51 times 196", x.richest(832), 0);
        x.set(5, 0, 831);
        due("50 times 204, 400 and 50 times 196, and 400", x.richest(832), 10);
        due("in 1799", told(served).richest(1799), 0);
        due("in 0", told(served).richest(0), 10);
        due("nobody is PAID", new PartedPension().richest(1799), 10);
    }

    private static void richestOfSeveral() {
        says("Promise 17", "of several THE MEMBER, then the first.");
        PartedPension x = told("serve 240 480 1000;wed 0 240;part 480 500 shared 600;retire 780;");
        due("200 and 200", x.richest(781), 10);
        x.set(1, 0, 502);
        due("200 and 200", x.richest(781), 10);
        x.set(1, 0, 503);
        due("201 and 199", x.richest(781), 0);
        x = told("serve 240 480 1000;wed 0 240;part 320 1000 shared 0;wed 0 320;part 400 1000 shared 0;"
            + "wed 0 400;part 480 1000 shared 0;retire 780;cola 0;");
        due("133 each, 1 to THE MEMBER", x.richest(781), 0);
        x.set(1, 0, 990);
        due("132 to the first", x.richest(781), 1);
        x.set(1, 1, 990);
        due("133 to the third alone", x.richest(781), 2);
        x.set(1, 2, 990);
        due("132 each", x.richest(781), 0);
        due("all alike: 0", x.richest(780), 10);
    }

    private static void richestOfNoMonth() {
        says("Promise 17", "NONE: no MONTH.");
        PartedPension x = told(COUPLE);
        for (int month : NO_MONTHS) {
            due("richest(" + month + ")", x.richest(month), NONE);
        }
    }

    private static void happensInOrder() {
        says("Promise 18", "The i-th of WHAT HAPPENS (from 0 on): 100 times the MONTH, 10 times the kind, and the number of the SPAN"
            + " (by FROM), SPOUSE (0 for 4, 7).");
        PartedPension x = told(COUPLE + "dies 800;lost 0 800;wed 0 420;lost 1 800;");
        int[] due = {24000, 30020, 42021, 42030, 48010, 78040, 78050, 80060, 80061, 80070};
        for (int i = 0; i < due.length; i++) {
            due("happens(" + i + ")", x.happens(i), due[i]);
        }
        x = told("serve 30 40 1;serve 20 30 1;");
        int[] byFrom = {2000, 3001, 3010, 4011};
        for (int i = 0; i < byFrom.length; i++) {
            due("by FROM, happens(" + i + ")", x.happens(i), byFrom[i]);
        }
    }

    private static void happensNoMore() {
        says("Promise 18", "NONE: there is none such.");
        due("nothing happens", new PartedPension().happens(0), NONE);
        PartedPension x = told("retire 0;");
        due("happens(0)", x.happens(0), 40);
        for (int i : new int[] {-1, 1, 33, 34, Integer.MIN_VALUE, Integer.MAX_VALUE}) {
            due("happens(" + i + ")", x.happens(i), NONE);
        }
        x = told(EIGHT_SPANS, "wed 0 0;part 1 1 apart 1;wed 0 1;part 2 1 apart 1;wed 0 2;part 3 1 apart 1;wed 0 3;part 4 1 apart 1;",
            "lost 0 9;lost 1 9;lost 2 9;lost 3 9;dies 1799;retire 8;");
        due("the 33rd of as many as can be", x.happens(32), 963);
        due("the 34th", x.happens(33), 179970);
        due("a 35th", x.happens(34), NONE);
    }
}

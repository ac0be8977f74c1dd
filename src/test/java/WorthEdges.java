/** The sentences of the promises 19 to 26, worths. */
final class WorthEdges extends Edges {
    /** Nobody grows so old by 1799 that LIVES fall: 620 MONTHS from RETIRES on, WHOLE 400, a SHARE of 100. */
    private static final String YOUNG = "born 400;serve 640 880 1000;wed 400 700;part 820 500 shared 600;retire 1180;" + FLAT;
    /** As YOUNG, all of it married. */
    private static final String ALL_MARRIED = "born 400;wed 400 640;part 880 1 shared 1000;" + FLAT;
    /** THE MEMBER has an ANNUITY of 1.5 in RETIRES, the SPOUSE lives to 1799, 232 MONTHS; SHARE is PORTION by 5. */
    private static final String LAST_MONTHS =
        "born 130;serve 900 1140 1000;wed 900 960;part 1080 500 apart 0;retire 1568;" + FLAT;

    private WorthEdges() {
    }

    static void all() {
        livesAtAnAge();
        livesBelowZero();
        discounts();
        discountOfAnotherK();
        annuities();
        annuityOfNone();
        ownWereTheyApart();
        ownOfNone();
        worths();
        worthOfNone();
        bestClaim();
        bestClaimOfNone();
        leastHalf();
        halfOfNone();
        crossing();
        crossingOfNone();
    }

    private static void livesAtAnAge() {
        says("Promise 19", "LIVES.");
        PartedPension x = told("lives 50 60000;");
        int[][] due = {{0, 100000}, {1, 99933}, {599, 60066}, {600, 60000}, {601, 59928}, {1439, 71}, {1440, 0}, {1799, 0}, {5000, 0},
            {Integer.MAX_VALUE, 0}};
        for (int[] row : due) {
            due("lives(" + row[0] + ")", x.lives(row[0]), row[1]);
        }
    }

    private static void livesBelowZero() {
        says("Promise 19", "NONE: an age below 0.");
        PartedPension x = told("lives 1 60000;");
        due("lives(-1)", x.lives(-1), NONE);
        due("lives(-1440)", x.lives(-1440), NONE);
        due("lives(least)", x.lives(Integer.MIN_VALUE), NONE);
    }

    private static void discounts() {
        says("Promise 20", "V (k 0 to 1799).");
        PartedPension x = new PartedPension();
        due("V of 0", x.discount(0), 1000000000);
        due("V of 1", x.discount(1), 997506234);
        due("V of 1799", x.discount(1799), 11199285);
        x.set(14, 0, 200);
        due("V of 0 by 200", x.discount(0), 1000000000);
        due("V of 1 by 200", x.discount(1), 983606557);
    }

    private static void discountOfAnotherK() {
        says("Promise 20", "NONE for another k.");
        PartedPension x = new PartedPension();
        for (int k : NO_MONTHS) {
            due("discount(" + k + ")", x.discount(k), NONE);
        }
    }

    private static void annuities() {
        says("Promise 21", "ANNUITY of a SPOUSE, of THE MEMBER (who 10).");
        PartedPension x = told("wed 100 200;" + FLAT);
        due("of THE MEMBER", x.annuity(10, 780, 780), FLAT_ANNUITY);
        due("of the SPOUSE", x.annuity(0, 880, 880), FLAT_ANNUITY);
        due("s in t", x.annuity(10, 0, 0), 780000000000L + FLAT_ANNUITY);
        due("s a month behind t", x.annuity(10, 0, 1), 779000000000L + FLAT_ANNUITY);
        due("s 1799", x.annuity(10, 780, 1799), 0);
        due("both 1799", x.annuity(10, 1799, 1799), 0);
        due("the SPOUSE is 1439 months old", x.annuity(0, 1539, 1539), 1000000000L);
        due("of the fourth", told("wed 0 1;part 2 1 apart 1;wed 0 2;part 3 1 apart 1;wed 0 3;part 4 1 apart 1;wed 100 200;" + FLAT)
            .annuity(3, 880, 880), FLAT_ANNUITY);
    }

    private static void annuityOfNone() {
        says("Promise 21", "NONE: there are none such, one is not BORN by t, s is ahead of t.");
        PartedPension x = told("born 50;wed 100 200;" + FLAT);
        for (int who : NOBODY) {
            due("of " + who, x.annuity(who, 780, 780), NONE);
        }
        due("of THE REST", x.annuity(11, 780, 780), NONE);
        for (int month : NO_MONTHS) {
            due("t is " + month, x.annuity(10, month, 1799), NONE);
            due("s is " + month, x.annuity(10, 780, month), NONE);
            due("both are " + month, x.annuity(10, month, month), NONE);
        }
        due("the SPOUSE is BORN in t", x.annuity(0, 100, 1539), 83330000L);
        due("the SPOUSE is BORN a month behind t", x.annuity(0, 99, 1539), NONE);
        due("THE MEMBER is BORN in t", x.annuity(10, 50, 1489), 83330000L);
        due("THE MEMBER is BORN a month behind t", x.annuity(10, 49, 1489), NONE);
        due("s in t", x.annuity(10, 1489, 1489), 1000000000L);
        due("s a month ahead of t", x.annuity(10, 1489, 1488), NONE);
        due("s far ahead of t", x.annuity(10, 1799, 0), NONE);
    }

    private static void ownWereTheyApart() {
        says("Promise 22", "OWN of a SPOUSE, were they APART.");
        PartedPension x = told(YOUNG);
        due("SHARED", x.own(0), 100);
        x.set(2, 0, 1);
        due("APART", x.own(0), 100);
        x.set(4, 0, 1490);
        due("claimed for half of the MONTHS", x.own(0), 200);
        x.set(4, 0, 1799);
        due("claimed for one MONTH", x.own(0), 62000);
        x.set(6, 0, 401);
        x.set(5, 0, 401);
        due("DIES is not asked", x.own(0), 62000);
    }

    private static void ownOfNone() {
        says("Promise 22", "NONE: there is none such, no RETIRES; 0 if they are not PARTED.");
        PartedPension x = told(YOUNG + "wed 400 820;");
        due("not PARTED", x.own(1), 0);
        due("none such", x.own(2), NONE);
        for (int k : new int[] {-1, 3, 4, 10, Integer.MIN_VALUE, Integer.MAX_VALUE}) {
            due("own(" + k + ")", x.own(k), NONE);
        }
        x.set(0, 0, NONE);
        due("no RETIRES", x.own(0), NONE);
        due("no RETIRES, not PARTED", x.own(1), NONE);
        due("no SPOUSE", told("retire 700;").own(0), NONE);
        due("RETIRES 0 is a MONTH, too", told("retire 0;wed 0 0;part 1 1 apart 1;").own(0), 0);
    }

    private static void worths() {
        says("Promise 23", "WORTH in a MONTH of a SPOUSE, of all (who 10).");
        PartedPension x = told(YOUNG);
        due("of the SPOUSE", x.worth(0, 1180), 62000);
        due("of all", x.worth(10, 1180), 248000);
        due("of the SPOUSE in BORN", x.worth(0, 400), 62000);
        due("of all in BORN", x.worth(10, 400), 248000);
        due("of the SPOUSE in 1799", x.worth(0, 1799), 100);
        due("of all in 1799", x.worth(10, 1799), 400);
        due("of all in 1798", x.worth(10, 1798), 800);
        x.set(2, 0, 1);
        due("APART", x.worth(0, 1181), 61900);
    }

    private static void worthOfNone() {
        says("Promise 23", "NONE: there are none such, no RETIRES, one of both is not BORN by t.");
        PartedPension x = told(YOUNG);
        for (int month : NO_MONTHS) {
            due("of the SPOUSE in " + month, x.worth(0, month), NONE);
            due("of all in " + month, x.worth(10, month), NONE);
        }
        for (int who : NOBODY) {
            due("of " + who, x.worth(who, 1180), NONE);
        }
        due("of THE REST", x.worth(11, 1180), NONE);
        due("none is BORN", x.worth(0, 399), NONE);
        due("THE MEMBER is not BORN", x.worth(10, 399), NONE);
        x.set(0, 0, NONE);
        due("no RETIRES", x.worth(0, 1180), NONE);
        due("no RETIRES", x.worth(10, 1180), NONE);
        x = told("born 400;wed 300 700;retire 1180;");
        due("THE MEMBER is not BORN", x.worth(0, 399), NONE);
        due("both are BORN", x.worth(0, 400), 0);
        x = told("born 400;serve 640 880 1000;wed 500 700;retire 1180;" + FLAT);
        due("the SPOUSE is not BORN", x.worth(0, 499), NONE);
        due("both are BORN", x.worth(0, 500), 0);
        due("of all THE MEMBER alone is asked", x.worth(10, 499), 248000);
        due("no SPOUSE", told("retire 700;").worth(0, 700), NONE);
        due("RETIRES 0 is a MONTH, too", told("retire 0;wed 0 0;").worth(0, 0), 0);
        due("RETIRES 0 is a MONTH, too: of all", told("retire 0;").worth(10, 0), 0);
    }

    private static void bestClaim() {
        says("Promise 24", "The month to CLAIM (from RETIRES on, 0 to 240 months, not beyond 1799) by which WORTH of a SPOUSE in RETIRES"
            + " is greatest, the first.");
        PartedPension x = told(LAST_MONTHS);
        due("150 by 150 MONTHS, the first that bring all of it", x.claimBest(0), 1650);
        x.set(1, 0, 25);
        due("7 by 7 MONTHS, and by 1: the first", x.claimBest(0), 1793);
        x.set(1, 0, 805);
        due("241 by 1 MONTH alone: not beyond 1799", x.claimBest(0), 1799);
        x.set(4, 0, 1700);
        due("CLAIMS do not count", x.claimBest(0), 1799);
        due("CLAIMS stay", spouse(x, 0, 6), 1700);
        x.set(2, 0, 0);
        due("SHARED", x.claimBest(0), 1568);
        x.set(0, 0, 1799);
        due("RETIRES 1799", x.claimBest(0), 1799);
        x.set(2, 0, 1);
        due("RETIRES 1799", x.claimBest(0), 1799);
        farClaims();
        due("all alike: not PARTED", told("retire 480;wed 480 490;").claimBest(0), 480);
        due("all alike: nothing served", told("retire 480;wed 0 9;part 10 1000 apart 0;").claimBest(0), 480);
    }

    /** THE MEMBER is at the end of the table in RETIRES: by 22 times 5.99, 131; by 36 times 3.49, 125. */
    private static void farClaims() {
        PartedPension x = told("serve 900 1140 1000;wed 900 960;part 1080 110 apart 0;retire 1429;" + FLAT);
        due("131 by 131 MONTHS, 240 behind RETIRES", x.claimBest(0), 1669);
        x.set(0, 0, 1434);
        x.set(1, 0, 180);
        due("125 by 125 MONTHS would be 241 behind RETIRES", x.claimBest(0), 1434);
    }

    private static void bestClaimOfNone() {
        says("Promise 24", "NONE: WORTH is none there.");
        PartedPension x = told(YOUNG);
        for (int k : NOBODY) {
            due("claimBest(" + k + ")", x.claimBest(k), NONE);
        }
        due("of THE MEMBER", x.claimBest(10), NONE);
        x.set(0, 0, NONE);
        due("no RETIRES", x.claimBest(0), NONE);
        due("BORN in RETIRES", told("retire 480;wed 480 490;part 500 1 apart 1;").claimBest(0), 480);
        due("RETIRES 0 is a MONTH, too: APART", told("retire 0;wed 0 0;part 1 1 apart 1;").claimBest(0), 0);
        due("RETIRES 0 is a MONTH, too: SHARED", told("retire 0;wed 0 0;part 1 1 shared 1;").claimBest(0), 0);
        due("BORN behind RETIRES 0", told("retire 0;wed 1 1;part 2 1 apart 1;").claimBest(0), NONE);
        due("THE MEMBER is BORN in RETIRES", told("born 480;retire 480;wed 0 490;part 500 1 apart 1;").claimBest(0), 480);
        due("BORN behind RETIRES", told("retire 480;wed 481 490;part 500 1 apart 1;").claimBest(0), NONE);
        due("no SPOUSE", told("retire 480;").claimBest(0), NONE);
    }

    private static void leastHalf() {
        says("Promise 25", "The least PORTION by which WORTH of a SPOUSE in RETIRES is half of that of all, or more.");
        PartedPension x = told(ALL_MARRIED + "serve 640 880 1000;retire 1180;");
        due("200 is half of 400", x.half(0), 500);
        due("PORTION stays", spouse(x, 0, 3), 1);
        x.set(2, 0, 1);
        due("APART", x.half(0), 500);
        due("201 is more than half of 401: 502 by 1000", told(ALL_MARRIED + "serve 640 880 1003;retire 1180;").half(0), 502);
        due("1 is more than half of 1: by 1000 alone", told(ALL_MARRIED + "serve 640 880 3;retire 1180;").half(0), 1000);
        due("0 is half of 0", told(ALL_MARRIED + "serve 640 880 2;retire 1180;").half(0), 0);
        due("0 is half of 0, without service", told(ALL_MARRIED + "retire 1180;").half(0), 0);
        x = told(YOUNG);
        due("half of the service: by 1000 alone", x.half(0), 1000);
        x.set(4, 0, 1181);
        due("a MONTH less", x.half(0), NONE);
    }

    private static void halfOfNone() {
        says("Promise 25", "NONE: by none; they are not PARTED; WORTH is none there.");
        String served = "born 400;serve 640 880 1000;wed 400 700;retire 1180;" + FLAT;
        due("120 of 240 MONTHS", told(served + "part 820 0 shared 0;").half(0), 1000);
        due("119 of 240 MONTHS", told(served + "part 819 1000 shared 0;").half(0), NONE);
        due("not PARTED", told(served).half(0), NONE);
        PartedPension x = told(served + "part 820 0 shared 0;");
        for (int k : NOBODY) {
            due("half(" + k + ")", x.half(k), NONE);
        }
        due("of THE MEMBER", x.half(10), NONE);
        x.set(0, 0, NONE);
        due("no RETIRES", x.half(0), NONE);
        due("BORN in RETIRES", told("retire 480;wed 480 490;part 500 1 apart 1;").half(0), 0);
        due("RETIRES 0 is a MONTH, too", told("retire 0;wed 0 0;part 1 1 apart 1;").half(0), 0);
        due("BORN behind RETIRES 0", told("retire 0;wed 1 1;part 2 1 apart 1;").half(0), NONE);
        due("THE MEMBER is BORN in RETIRES", told("born 480;retire 480;wed 0 490;part 500 1 apart 1;").half(0), 0);
        due("BORN behind RETIRES", told("retire 480;wed 481 490;part 500 1 apart 1;").half(0), NONE);
        due("no SPOUSE", told("retire 480;").half(0), NONE);
    }

    private static void crossing() {
        says("Promise 26", "The first MONTH at whose end a SPOUSE would have been PAID more by the other HOW than by theirs, from 0 on.");
        PartedPension x = told(YOUNG + "claim 0 1190;cola 20;");
        due("APART is 101, SHARED 100: at once", x.crosses(0), 1190);
        x.set(2, 0, 1);
        due("SHARED is 100, 100, 102, 102, then 102 more than 101", x.crosses(0), 1194);
        x.set(4, 0, 1507);
        due("211 in each MONTH, up to the last but one", x.crosses(0), 1798);
        x.set(4, 0, 1508);
        due("212 in each MONTH", x.crosses(0), NONE);
        x.set(2, 0, 0);
        x.set(4, 0, 1799);
        due("in the last MONTH", x.crosses(0), 1799);
        x = told(YOUNG + "dies 1799;");
        due("60 less than 100 in the last MONTH", x.crosses(0), 1799);
        x.set(3, 0, 1000);
        due("never", x.crosses(0), NONE);
        x = told("wed 0 0;part 1 1000 shared 0;serve 0 240 1000;normal 0;claim 0 1;retire 240;" + FLAT);
        due("HOW stays", spouse(x, 0, 4), 0);
        due("1 of 1200 is as much", x.crosses(0), NONE);
    }

    private static void crossingOfNone() {
        says("Promise 26", "NONE: in none, they are not PARTED, there is none such.");
        PartedPension x = told(YOUNG);
        due("100 in each MONTH, SHARED", x.crosses(0), NONE);
        x.set(2, 0, 1);
        due("100 in each MONTH, APART", x.crosses(0), NONE);
        x.set(4, 0, 1190);
        x.set(2, 0, 0);
        due("101 in each MONTH", x.crosses(0), 1190);
        x.set(5, 0, 1191);
        due("101 in one MONTH", x.crosses(0), 1190);
        x.set(5, 0, 1190);
        due("the SPOUSE does not live", x.crosses(0), NONE);
        for (int k : NOBODY) {
            due("crosses(" + k + ")", x.crosses(k), NONE);
        }
        due("of THE MEMBER", x.crosses(10), NONE);
        x.set(5, 0, NONE);
        x.set(0, 0, NONE);
        due("no RETIRES", x.crosses(0), NONE);
        due("not PARTED", told("serve 640 880 1000;wed 400 700;retire 1180;claim 0 1190;").crosses(0), NONE);
        due("no SPOUSE", told("retire 480;").crosses(0), NONE);
    }
}

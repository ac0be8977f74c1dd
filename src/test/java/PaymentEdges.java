/** The sentences of "Terms", 3: PAID, THE REST, WORTH, WHAT HAPPENS. */
final class PaymentEdges extends Edges {
    /** PARTED in 790, behind RETIRES: a SHARE of 150 out of 400. */
    private static final String PARTED_LATE = "serve 240 480 1000;wed 0 300;part 790 500 shared 0;retire 780;";
    /** THE MEMBER is at the end of the table in RETIRES, the SPOUSE lives to 1799: a SHARE of 100 out of 400. */
    private static final String WIDOW = "serve 900 1140 1000;wed 900 960;part 1080 500 shared 600;retire 1428;" + FLAT;

    private PaymentEdges() {
    }

    static void all() {
        whenPaid();
        apart();
        shared();
        member();
        rest();
        worthOfASpouse();
        oddsOfBoth();
        worthApart();
        worthShared();
        diesIsNotAsked();
        worthOfAll();
        whatHappens();
    }

    private static void whenPaid() {
        says("Terms 3", "PAID to a SPOUSE in a MONTH (PARTED by then; it is not ahead of BEGIN; the SPOUSE lives):");
        PartedPension x = told(PARTED_LATE);
        due("a month ahead of PARTED", x.paid(789, 0), 0);
        due("in PARTED", x.paid(790, 0), 150);
        x = told(COUPLE + "claim 0 790;");
        due("a month ahead of BEGIN", x.paid(789, 0), 0);
        due("in BEGIN", x.paid(790, 0), 100);
        x = told(COUPLE + "lost 0 792;");
        due("a month ahead of RETIRES", x.paid(779, 0), 0);
        due("in RETIRES", x.paid(780, 0), 100);
        due("a month ahead of DIES", x.paid(791, 0), 100);
        due("in DIES", x.paid(792, 0), 0);
        x = told(PARTED_LATE + "claim 0 790;lost 0 791;");
        due("PARTED and BEGIN a month ahead of DIES", x.sum(0, 0, 1799), 150);
        x = told(COUPLE + "lost 0 780;");
        due("DIES in BEGIN", x.sum(0, 0, 1799), 0);
        x = told(COUPLE + "claim 0 1799;cola 0;");
        due("BEGIN 1799", x.paid(1799, 0), 100);
        due("BEGIN 1799", x.paid(1798, 0), 0);
        x = told("serve 240 480 1000;wed 0 300;retire 780;");
        due("not PARTED", x.sum(0, 0, 1799), 0);
        x = told("serve 240 480 1000;wed 0 300;part 420 500 shared 600;");
        due("without RETIRES", x.sum(0, 0, 1799), 0);
    }

    private static void apart() {
        says("Terms 3", "if APART: OWN;");
        PartedPension x = told(COUPLE + "interest 0;lives 119 100000;dies 800;");
        x.set(2, 0, 1);
        due("OWN", x.own(0), 99);
        due("ahead of RETIRES", x.paid(779, 0), 0);
        due("in RETIRES", x.paid(780, 0), 99);
        due("not raised", x.paid(792, 0), 99);
        due("THE MEMBER does not live", x.paid(800, 0), 99);
        due("in 1799", x.paid(1799, 0), 99);
    }

    private static void shared() {
        says("Terms 3", "if SHARED: SHARE while THE MEMBER lives, else SHARE times SURVIVOR by 1000, downwards. Else 0.");
        PartedPension x = told(COUPLE + "dies 800;");
        due("a month ahead of DIES", x.paid(799, 0), 102);
        due("in DIES: 61 and 200 by 1000", x.paid(800, 0), 61);
        x.set(3, 0, 0);
        due("SURVIVOR 0", x.paid(800, 0), 0);
        x.set(3, 0, 9);
        due("SURVIVOR 9: 918 by 1000", x.paid(800, 0), 0);
        x.set(3, 0, 10);
        due("SURVIVOR 10: 1020 by 1000", x.paid(800, 0), 1);
        x.set(3, 0, 999);
        due("SURVIVOR 999", x.paid(800, 0), 101);
        x.set(3, 0, 1000);
        due("SURVIVOR 1000", x.paid(800, 0), 102);
        x = told(COUPLE + "dies 1;");
        due("THE MEMBER did not live to RETIRES", x.paid(780, 0), 60);
        due("ahead of RETIRES", x.paid(779, 0), 0);
    }

    private static void member() {
        says("Terms 3", "To THE MEMBER, who lives: WHOLE, less SHARE of each one PARTED by then that is APART,"
            + " less what is PAID to each one that is SHARED; 0 behind.");
        PartedPension x = told(PARTED_LATE + "claim 0 791;lost 0 792;dies 793;cola 0;");
        due("SHARED, ahead of PARTED", x.paid(789, 10), 400);
        due("SHARED, PARTED, ahead of BEGIN", x.paid(790, 10), 400);
        due("SHARED, in BEGIN", x.paid(791, 10), 250);
        due("SHARED, the SPOUSE does not live", x.paid(792, 10), 400);
        due("in DIES", x.paid(793, 10), 0);
        x.set(2, 0, 1);
        due("APART, ahead of PARTED", x.paid(789, 10), 400);
        due("APART, PARTED, ahead of BEGIN", x.paid(790, 10), 250);
        due("APART, in BEGIN", x.paid(791, 10), 250);
        due("APART, the SPOUSE does not live", x.paid(792, 10), 250);
        due("in DIES", x.paid(793, 10), 0);
        due("ahead of RETIRES", x.paid(779, 10), 0);
        x = told("serve 240 480 1000;wed 0 240;part 320 500 apart 0;wed 0 320;part 400 500 shared 0;retire 780;");
        due("less 66 of each way", x.paid(780, 10), 268);
        x = told("serve 240 480 1000;wed 0 240;part 480 1000 shared 0;retire 780;");
        due("nothing is left", x.paid(780, 10), 0);
        x = told(COUPLE + "dies 780;");
        due("DIES in RETIRES", x.sum(10, 0, 1799), 0);
    }

    private static void rest() {
        says("Terms 3", "THE REST: WHOLE less all that is PAID (may be below 0).");
        PartedPension x = told(COUPLE + "lost 0 900;dies 800;");
        due("ahead of RETIRES", x.paid(779, 11), 0);
        due("both live", x.paid(780, 11), 0);
        due("THE MEMBER does not live: 408 less 61", x.paid(800, 11), 347);
        due("none lives", x.paid(900, 11), x.whole(900));
        x = told(COUPLE + FLAT);
        x.set(2, 0, 1);
        due("APART: 400 less 300, less 99", x.paid(780, 11), 1);
        x.set(4, 0, 1428);
        due("APART, ahead of BEGIN: 400 less 300", x.paid(1427, 11), 100);
        due("APART, claimed late: 400 less 300, less 10069", x.paid(1428, 11), -9969);
    }

    private static void worthOfASpouse() {
        says("Terms 3", "WORTH of a SPOUSE in a MONTH t, PARTED by then or not: the sum, over MONTHS m from BEGIN or t on"
            + " (the later one) to 1799, of V (of m less t) times X by 1000000000, downwards;");
        PartedPension x = told(COUPLE + FLAT);
        x.set(2, 0, 1);
        long[][] due = {{0, 64789}, {300, 64789}, {420, 64789}, {779, 64789}, {780, 64789}, {781, 64690}, {1428, 637},
            {1438, 148}, {1439, 99}, {1440, 0}, {1799, 0}};
        for (long[] row : due) {
            due("worth(0, " + row[0] + ")", x.worth(0, (int) row[0]), row[1]);
        }
        x.set(4, 0, 1428);
        due("BEGIN 1428, t 780", x.worth(0, 780), 65443);
        due("BEGIN 1428, t 1428", x.worth(0, 1428), 65443);
        x = told("serve 900 1140 100000;wed 900 960;part 1080 500 apart 0;retire 1430;cola 0;lives 119 100000;");
        due("OWN", x.own(0), 225);
        due("in 1799", x.worth(0, 1799), 225);
        due("in 1798: 225 and 224", x.worth(0, 1798), 449);
        due("in 1797: 225, 224 and 223", x.worth(0, 1797), 672);
        due("not PARTED at all", told("serve 240 480 1000;wed 0 300;retire 780;").worth(0, 780), 0);
    }

    private static void oddsOfBoth() {
        says("Terms 3", "with b ODDS of the SPOUSE, a those of THE MEMBER, j a times b by 1000000000, downwards, X is:");
        PartedPension x = told(WIDOW);
        due("a falls for 12 MONTHS, b stays", x.worth(0, 1428), 22576);
        due("a is by LIVES in t", x.worth(0, 1429), 22495);
        due("a is 0, b is not", x.worth(0, 1440), 360 * 60);
        x = told("born 372;serve 900 1140 1000;wed 0 960;part 1080 500 shared 600;retire 1428;" + FLAT);
        due("b falls for 12 MONTHS, a stays", x.worth(0, 1428), 646);
        due("b is 0, a is not", x.worth(0, 1440), 0);
        x = told("serve 900 1140 1000;wed 0 960;part 1080 500 shared 600;retire 1439;" + FLAT);
        due("both fall", x.worth(0, 1438), 40);
    }

    private static void worthApart() {
        says("Terms 3", "if APART, OWN times b by 1000000000, downwards;");
        PartedPension x = told("serve 900 1140 1000;wed 0 960;part 1080 500 apart 600;retire 1438;" + FLAT);
        due("OWN: 150 by 1.5", x.own(0), 100);
        due("100 and 50", x.worth(0, 1438), 150);
        due("100", x.worth(0, 1439), 100);
        x.set(1, 0, 495);
        due("OWN: 148 by 1.5", x.own(0), 98);
        due("98 and 49", x.worth(0, 1438), 147);
        x.set(1, 0, 490);
        due("OWN: 147 by 1.5", x.own(0), 98);
        x.set(1, 0, 500);
        x.set(0, 0, 1437);
        due("OWN: 199 by 1.99996", x.own(0), 99);
        due("99, 65 and 32, each one downwards", x.worth(0, 1437), 99 + 65 + 32);
    }

    private static void worthShared() {
        says("Terms 3", "if SHARED, (SHARE times j, and (SHARE times SURVIVOR by 1000, downwards) times (b less j))"
            + " by 1000000000, downwards.");
        PartedPension x = told(WIDOW);
        x.set(3, 0, 0);
        due("SURVIVOR 0: 100, 91, 83 and so on", x.worth(0, 1428), 646);
        x.set(3, 0, 1000);
        due("SURVIVOR 1000: 100 in 372 MONTHS", x.worth(0, 1428), 37200);
        x.set(1, 0, 5);
        due("SHARE 1, SURVIVOR 1000", x.worth(0, 1428), 372);
        x.set(3, 0, 999);
        due("SHARE 1, SURVIVOR 999 is 0", x.worth(0, 1428), 1);
        x.set(1, 0, 4);
        due("SHARE 0", x.worth(0, 1428), 0);
    }

    private static void diesIsNotAsked() {
        says("Terms 3", "(DIES is not asked.)");
        PartedPension x = told(WIDOW);
        x.set(6, 0, 1);
        due("THE MEMBER DIES", x.worth(0, 1428), 22576);
        due("THE MEMBER DIES", x.worth(10, 1428), 2596);
        x.set(5, 0, 901);
        due("the SPOUSE DIES", x.worth(0, 1428), 22576);
        x.set(2, 0, 1);
        long living = x.worth(0, 1428);
        x.set(5, 0, NONE);
        x.set(6, 0, NONE);
        due("APART", living, x.worth(0, 1428));
    }

    private static void worthOfAll() {
        says("Terms 3", "WORTH of all in a MONTH t: likewise of THE MEMBER's WHOLE, from RETIRES or t on:"
            + " X is WHOLE times a by 1000000000, downwards.");
        PartedPension x = told("serve 900 1140 1000;retire 1428;" + FLAT);
        long[][] due = {{0, 2596}, {1427, 2596}, {1428, 2596}, {1429, 2395}, {1438, 600}, {1439, 400}, {1440, 0}, {1799, 0}};
        for (long[] row : due) {
            due("worth(10, " + row[0] + ")", x.worth(10, (int) row[0]), row[1]);
        }
        x.set(14, 0, 30);
        x.set(0, 0, 1438);
        due("discounted: 400 and 199", x.worth(10, 1438), 599);
        x = told("born 1000;serve 1000 1240 1000;normal 0;retire 1787;interest 0;lives 119 100000;");
        due("raised in the last MONTH", x.worth(10, 1787), 12 * 400 + 408);
    }

    private static void whatHappens() {
        says("Terms 3", "WHAT HAPPENS: a SPAN begins (kind 0), ends (1; in TO), WED (2), PARTED (3), RETIRES (4),"
            + " BEGIN of one who is PARTED (5), a SPOUSE DIES (6), THE MEMBER DIES (7): in order of MONTHS, then kinds, then numbers.");
        PartedPension x = told("dies 110;wed 0 5;part 110 1 apart 1;wed 0 110;lost 1 110;lost 0 110;"
            + "serve 100 110 1;serve 0 100 1;retire 110;");
        int[] due = {0, 520, 10001, 10010, 11011, 11021, 11030, 11040, 11050, 11060, 11061, 11070, NONE};
        for (int i = 0; i < due.length; i++) {
            due("happens(" + i + ")", x.happens(i), due[i]);
        }
        due("the 4th SPOUSE BEGINS last", told("wed 0 1;part 2 1 apart 1;wed 0 2;part 3 1 apart 1;wed 0 3;part 4 1 apart 1;"
            + "wed 0 4;part 5 1 apart 1;retire 9;").happens(12), 953);
        x = told("wed 0 5;retire 9;");
        due("no BEGIN of one who is not PARTED", x.happens(1), 940);
        due("no BEGIN of one who is not PARTED", x.happens(2), NONE);
        x = told("retire 9;wed 0 7;dies 5;");
        due("told last, the first that happens", x.happens(0), 570);
        due("then the one told ahead of it", x.happens(1), 720);
        x = told("wed 0 5;part 9 1 apart 1;claim 0 9;");
        due("no BEGIN without RETIRES", x.happens(2), NONE);
        x = told("serve 0 1799 1;retire 1799;dies 1799;wed 0 0;part 1799 1 shared 1;lost 0 1799;");
        int[] last = {0, 20, 179910, 179930, 179940, 179950, 179960, 179970, NONE};
        for (int i = 0; i < last.length; i++) {
            due("in 0 and 1799, happens(" + i + ")", x.happens(i), last[i]);
        }
    }
}

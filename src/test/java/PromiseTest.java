/** Each promise by numbers that were worked out by hand from the document. */
public final class PromiseTest extends Answers {
    /** THE MEMBER is near the end of the table, the SPOUSE lives to 1799: OWN is 549 by the months left. */
    private static final String LATE = "born 0; serve 900 1140 1000; wed 900 960;"
        + " part 1080 500 apart 0; retire 1430;" + FLAT;

    private static void newObject() {
        PartedPension x = new PartedPension();
        int[] first = {0, 0, 0, 0, NONE, NONE, 0, 0, NONE, NONE, 200, 780, 3, 20, 30, NONE};
        for (int what = 0; what < first.length; what++) {
            due("count(" + what + ")", x.count(what), first[what]);
        }
        due("fault()", x.fault(), 0);
        due("undo()", x.undo(), NONE);
        due("tell()", x.tell(), 0);
        for (int what = 0; what < 4; what++) {
            due("benefit(" + what + ")", x.benefit(what), 0);
        }
        due("whole(0)", x.whole(0), 0);
        due("happens(0)", x.happens(0), NONE);
        due("paid(5, 10)", x.paid(5, 10), 0);
        due("paid(5, 11)", x.paid(5, 11), 0);
        due("richest(5)", x.richest(5), 10);
    }

    private static void feed() {
        PartedPension x = new PartedPension();
        // "per 7; cola 8;\nearly" and " 9;", the second one with bytes that end() takes off again
        due("feed", x.feed(0x70657220, 0x373b2063, 0x6f6c6120, 0x383b0a65, 0x61726c79), 20);
        due("feed", x.feed(0x20393bff, 0x80000001, -1, 0, 0), 40);
        due("count(6)", x.count(6), 40);
        due("end(23)", x.end(23), true);
        due("tell()", x.tell(), 3);
        due("count(10)", x.count(10), 7);
        due("count(13)", x.count(13), 8);
        due("count(12)", x.count(12), 9);
        for (int i = 1; i <= 20; i++) {
            due("feed " + i, x.feed(0, 0, 0, 0, 0), 20 * i);
        }
        due("feed 21", x.feed(0, 0, 0, 0, 0), NONE);
        due("count(6)", x.count(6), 400);
        x.end(381);
        due("feed beyond", x.feed(0, 0, 0, 0, 0), NONE);
        due("count(6)", x.count(6), 381);
        x.end(380);
        due("feed up to 400", x.feed(0, 0, 0, 0, 0), 400);
    }

    private static void end() {
        PartedPension x = new PartedPension();
        due("end(0)", x.end(0), true);
        due("end(1)", x.end(1), false);
        due("end(-1)", x.end(-1), false);
        x.feed(1, 2, 3, 4, 5);
        due("end(21)", x.end(21), false);
        due("count(6)", x.count(6), 20);
        due("end(20)", x.end(20), true);
        due("end(7)", x.end(7), true);
        due("count(6)", x.count(6), 7);
        due("end(8)", x.end(8), false);
        due("end(min)", x.end(Integer.MIN_VALUE), false);
    }

    private static void tell() {
        fine("", 0);
        fine(" \n ", 0);
        fine(COUPLE, 5);
        fine("born5;per\n7\n;", 2);
        fine("wed 0 5;part9 1000apart0;", 2);
        fine("born 0000007;", 1);
        fine("serve 1 5 1;serve 5 8 1;serve 0 1 1;", 3);
        fine("lives 5 50;lives 6 50;lives 5 60;lives 6 0;", 4);
        fine("retire 5;retire 6;dies 5;dies 4;", 4);
        PartedPension x = told(COUPLE + "per 1;normal 2;early 4;cola 5;interest 6;dies 99;lives 3 4;");
        due("born: statements", Feeder.tell(x, "born 44;"), 1);
        int[] anew = {0, 0, 0, 44, NONE, NONE, 0, 2, NONE, NONE, 200, 780, 3, 20, 30};
        for (int what = 0; what < anew.length; what++) {
            due("count(" + what + ") behind born", x.count(what), anew[what]);
        }
        Feeder.tell(x, "born 0;serve 240 480 5;wed 0 250;part 300 7 apart 8;claim 0 9;lost 0 10;born 44;wed 45 46;");
        int[] wedAnew = {45, 46, NONE, 0, 0, 0, 0, NONE, 0, NONE};
        for (int what = 0; what < wedAnew.length; what++) {
            due("spouse(0, " + what + ") behind born", spouse(x, 0, what), wedAnew[what]);
        }
        due("N behind born", x.benefit(0), 0);
        x.undo();
        due("a fault", Feeder.tell(x, "born 7;per 9;wed 50 49;"), NONE);
        due("count(3)", x.count(3), 44);
        due("count(10)", x.count(10), 200);
        due("count(7)", x.count(7), 2);
    }

    private static void faultsOfWriting() {
        fault("born 5", 1, 6);
        fault("born 5  ", 1, 8);
        fault("born", 1, 4);
        fault("Born 5;", 1, 0);
        fault("bornx 5;", 1, 0);
        fault("bor 5;", 1, 0);
        fault("zorn 5;", 1, 0);
        fault("bornz 5;", 1, 0);
        fault("borna 5;", 1, 0);
        fault("born{5;", 1, 4);
        fault("born`5;", 1, 4);
        fault("born/5;", 1, 4);
        fault("born:5;", 1, 4);
        fault("5;", 1, 0);
        fault(";", 1, 0);
        fault("born;", 1, 4);
        fault("born 5;;", 1, 7);
        fault("born 5 6;", 1, 7);
        fault("born x;", 1, 5);
        fault("born\t5;", 1, 4);
        fault("born -5;", 1, 5);
        fault("born 00000001;", 1, 5);
        fault("per 7;" + (char) 0, 1, 6);
        fault("per 7;" + (char) 255, 1, 6);
        fault("per 7 12345678;", 1, 6);
        fault("wed 0 5;part 9 1000 split 0;", 1, 20);
        fault("wed 0 5;part 9 1000 5 0;", 1, 20);
        fault("wed 0 5;part 9 shared 5 0;", 1, 15);
    }

    private static void faultsOfNumbers() {
        fault("born 1800;", 2, 5);
        fault("serve 1800 5 5;", 2, 6);
        fault("serve 1 1800 5;", 2, 8);
        fault("serve 1 2 1000001;", 2, 10);
        fault("serve 9 3 1000001;", 2, 10);
        fault("serve 9 3 1000001", 2, 10);
        fault("wed 1800 5;", 2, 4);
        fault("wed 0 1800;", 2, 6);
        fault("wed 0 5;part 1800 5 apart 0;", 2, 13);
        fault("wed 0 5;part 9 1001 shared 0;", 2, 15);
        fault("wed 0 5;part 9 1000 apart 1001;", 2, 26);
        fault("lives 0 5;", 2, 6);
        fault("lives 120 5;", 2, 6);
        fault("lives 5 100001;", 2, 8);
        fault("claim 0 5;", 2, 6);
        fault("wed 0 5;claim 1 5;", 2, 14);
        fault("wed 0 5;claim 0 1800;", 2, 16);
        fault("wed 0 5;lost 1 5;", 2, 13);
        fault("wed 0 5;lost 0 1800;", 2, 15);
        fault("wed 0 5;born 0;lost 0 9;", 2, 20);
        fault("dies 1800;", 2, 5);
        fault("retire 1800;", 2, 7);
        fault("per 401;", 2, 4);
        fault("normal 1201;", 2, 7);
        fault("early 11;", 2, 6);
        fault("cola 31;", 2, 5);
        fault("interest 201;", 2, 9);
        fine("per 400;normal 1200;early 10;cola 30;interest 200;per 0;normal 0;early 0;cola 0;interest 0;", 10);
        fine("serve 0 1799 1000000;retire 1799;dies 1799;lives 119 100000;lives 1 100000;", 5);
        fine("wed 0 5;part 6 1000 apart 1000;claim 0 1799;lost 0 1799;wed 6 6;part 1799 0 shared 0;", 6);
    }

    private static void faultsOfPlans() {
        fault("serve 0 1 1;serve 1 2 1;serve 2 3 1;serve 3 4 1;serve 4 5 1;serve 5 6 1;serve 6 7 1;serve 7 8 1;serve", 3, 96);
        fault("wed 0 1;part 2 1 apart 1;wed 0 2;part 3 1 apart 1;wed 0 3;part 4 1 apart 1;wed 0 4; wed 9999999", 3, 84);
        fault("wed 0 1;part 2 1 apart 1;wed 0 2;part 3 1 apart 1;wed 0 3;part 4 1 apart 1;wed 0 4;part 5 1 apart 1;wed 0 5;",
            3, 100);
        fault("serve 9 9 1;", 4, 0);
        fault("serve 9 8 1;", 4, 0);
        fault("born 5; serve 4 9 10;", 4, 8);
        fault("serve 1 5 1;serve 4 8 1;", 4, 12);
        fault("serve 4 8 1;serve 1 5 1;", 4, 12);
        fault("serve 4 8 1;serve 1 9 1;", 4, 12);
        fault("serve 4 8 1;retire 7;", 4, 12);
        fault("retire 7;serve 4 8 1;", 4, 9);
        fine("serve 4 8 1;retire 8;serve 2 4 1;", 3);
        fine("retire 8;serve 4 8 1;", 2);
        fault("born 8;retire 7;", 4, 7);
        fine("born 8;retire 8;", 2);
        fault("born 8;dies 8;", 4, 7);
        fine("born 8;dies 9;", 2);
        fault("born 8;wed 0 7;", 4, 7);
        fault("born 8;wed 20 19;", 4, 7);
        fine("born 8;wed 20 20;", 2);
        fault("wed 0 5;wed 0 9;", 4, 8);
        fault("wed 0 5;part 9 1 apart 1;wed 0 8;", 4, 25);
        fault("part 9 1 apart 1;", 4, 0);
        fault("wed 0 5;part 5 1 apart 1;", 4, 8);
        fault("wed 0 5;part 9 1 apart 1;part 9 1 apart 1;", 4, 25);
        fault("wed 3 5;lost 0 3;", 4, 8);
        fault("lives 5 50;lives 6 51;", 4, 11);
        fault("lives 6 51; lives 5 50;", 4, 12);
        fault("lives 5 60;lives 6 50;lives 5 49;", 4, 22);
        fault("lives 5 60;lives 6 50;lives 6 61;", 4, 22);
        fine("lives 5 60;lives 6 50;lives 6 60;lives 5 60;", 4);
        fault("lives 1 1;lives 2 1;lives 3 1;lives 4 1;lives 5 1;lives 6 1;lives 7 1;lives 8 1;lives 9 1;lives 10 1;lives 11 1;",
            4, 101);
        fine("lives 1 1;lives 2 1;lives 3 1;lives 4 1;lives 5 1;lives 6 1;lives 7 1;lives 8 1;lives 9 1;lives 10 1;lives 10 0;", 11);
        fault("serve 9 9 1;per 401;", 4, 0);
        PartedPension x = new PartedPension();
        Feeder.tell(x, "per 401;");
        x.set(10, 0, 5);
        due("fault() stays", x.fault(), 34);
        Feeder.tell(x, "");
        due("fault() of no statement", x.fault(), 0);
    }

    private static void set() {
        due("RETIRES in 0", new PartedPension().set(0, 0, 0), true);
        due("DIES in 1", new PartedPension().set(6, 0, 1), true);
        PartedPension x = told("born 100; serve 200 300 5; wed 50 200; part 260 500 shared 600; wed 90 270;");
        due("RETIRES ahead of TO", x.set(0, 0, 299), false);
        due("RETIRES", x.set(0, 99, 300), true);
        due("RETIRES, it is so", x.set(0, 0, 300), false);
        due("RETIRES beyond", x.set(0, 0, 1800), false);
        due("RETIRES below", x.set(0, 0, -2), false);
        due("RETIRES NONE", x.set(0, 0, NONE), true);
        due("RETIRES NONE, it is so", x.set(0, 0, NONE), false);
        int[] high = {0, 1000, 1, 1000};
        for (int what = 1; what <= 3; what++) {
            due("what " + what + " beyond", x.set(what, 0, high[what] + 1), false);
            due("what " + what + " below", x.set(what, 0, NONE), false);
            due("what " + what, x.set(what, 0, high[what]), true);
            due("what " + what + ", it is so", x.set(what, 0, high[what]), false);
            due("what " + what + " not PARTED", x.set(what, 1, 1), false);
            due("what " + what + " of none", x.set(what, 2, 1), false);
            due("what " + what + " of -1", x.set(what, -1, 1), false);
            due("spouse " + what, spouse(x, 0, what + 2), high[what]);
        }
        due("CLAIMS, it is so", x.set(4, 1, 0), false);
        due("CLAIMS", x.set(4, 1, 1799), true);
        due("CLAIMS beyond", x.set(4, 1, 1800), false);
        due("CLAIMS NONE", x.set(4, 1, NONE), false);
        due("CLAIMS of none", x.set(4, 2, 7), false);
        due("DIES in BORN", x.set(5, 1, 90), false);
        due("DIES", x.set(5, 1, 91), true);
        due("DIES NONE", x.set(5, 1, NONE), true);
        due("DIES NONE, it is so", x.set(5, 1, NONE), false);
        due("DIES of none", x.set(5, 2, 700), false);
        due("MEMBER DIES in BORN", x.set(6, 0, 100), false);
        due("MEMBER DIES", x.set(6, -5, 101), true);
        due("MEMBER DIES beyond", x.set(6, 0, 1800), false);
        due("MEMBER DIES NONE", x.set(6, 0, NONE), true);
        int[] most = {400, 1200, 10, 30, 200};
        for (int i = 0; i < 5; i++) {
            due("TERM beyond", x.set(10 + i, 0, most[i] + 1), false);
            due("TERM below", x.set(10 + i, 0, -1), false);
            due("TERM", x.set(10 + i, -9, most[i]), true);
            due("TERM, it is so", x.set(10 + i, 0, most[i]), false);
            due("TERM told", x.count(10 + i), most[i]);
        }
        for (int what : new int[] {-1, 7, 8, 9, 15, Integer.MAX_VALUE}) {
            due("set of " + what, x.set(what, 0, 5), false);
        }
    }

    private static void undo() {
        PartedPension x = new PartedPension();
        for (int v = 0; v <= 12; v++) {
            due("set", x.set(10, 0, v), true);
        }
        due("count(7)", x.count(7), 12);
        for (int left = 11; left >= 0; left--) {
            due("undo", x.undo(), left);
            due("count(10)", x.count(10), left);
        }
        due("undo of none", x.undo(), NONE);
        due("count(10)", x.count(10), 0);
        Feeder.tell(x, COUPLE + "lives 9 99;dies 900;");
        Feeder.tell(x, "");
        Feeder.tell(x, "per 401;");
        x.set(10, 0, 401);
        due("count(7): what was not done is not counted", x.count(7), 1);
        Feeder.tell(x, "cola 20;");
        due("count(7): a tell that changes nothing", x.count(7), 2);
        Feeder.tell(x, "born 700;");
        due("undo born", x.undo(), 2);
        due("span", span(x, 0, 1), 480);
        due("spouse", spouse(x, 0, 2), 420);
        due("lives", x.lives(108), 99);
        due("DIES", x.count(5), 900);
        due("undo", x.undo(), 1);
        due("undo", x.undo(), 0);
        due("count(0)", x.count(0), 0);
        due("count(1)", x.count(1), 0);
        due("count(2)", x.count(2), 0);
        due("count(4)", x.count(4), NONE);
    }

    private static void count() {
        PartedPension x = told(COUPLE + "lives 5 9;lives 7 8;dies 801;");
        x.feed(0, 0, 0, 0, 0);
        int[] want = {1, 1, 2, 0, 780, 801, 20, 1, NONE, NONE, 200, 780, 3, 20, 30, NONE};
        for (int what = 0; what < want.length; what++) {
            due("count(" + what + ")", x.count(what), want[what]);
        }
        due("count(-1)", x.count(-1), NONE);
        due("count(max)", x.count(Integer.MAX_VALUE), NONE);
    }

    private static void spans() {
        PartedPension x = told("serve 20 30 7;serve 40 50 8;serve 5 9 1000000;");
        int[][] want = {{5, 9, 1000000}, {20, 30, 7}, {40, 50, 8}};
        for (int k = 0; k < 3; k++) {
            for (int what = 0; what < 3; what++) {
                due("span(" + k + ", " + what + ")", span(x, k, what), want[k][what]);
            }
        }
        due("span(3, 0)", span(x, 3, 0), THROWN);
        due("span(-1, 0)", span(x, -1, 0), THROWN);
        due("span(0, 3)", span(x, 0, 3), THROWN);
        due("span(0, -1)", span(x, 0, -1), THROWN);
        due("span(8, 0)", span(x, 8, 0), THROWN);
    }

    private static void spouses() {
        PartedPension x = told("serve 240 480 1000;wed 10 230;part 250 700 apart 800;wed 20 400;claim 0 900;lost 1 950;");
        int[][] want = {{10, 230, 250, 700, 1, 800, 900, NONE, 10, NONE}, {20, 400, NONE, 0, 0, 0, 0, 950, 0, NONE}};
        for (int k = 0; k < 2; k++) {
            for (int what = 0; what < 10; what++) {
                due("spouse(" + k + ", " + what + ")", spouse(x, k, what), want[k][what]);
            }
        }
        x.set(0, 0, 800);
        Feeder.tell(x, "serve 230 240 1;");
        due("W with a span more", spouse(x, 0, 8), 20);
        due("W, not PARTED", spouse(x, 1, 8), 0);
        due("BEGIN is CLAIMS", spouse(x, 0, 9), 900);
        due("BEGIN is RETIRES", spouse(x, 1, 9), 800);
        due("spouse(2, 0)", spouse(x, 2, 0), THROWN);
        due("spouse(-1, 0)", spouse(x, -1, 0), THROWN);
        due("spouse(0, 10)", spouse(x, 0, 10), THROWN);
        due("spouse(0, -1)", spouse(x, 0, -1), THROWN);
        due("spouse(10, 0)", spouse(x, 10, 0), THROWN);
    }

    private static void service() {
        PartedPension x = told("serve 20 30 7;serve 40 50 8;");
        due("service", x.service(0, 1799), 20);
        due("service", x.service(25, 45), 10);
        due("service", x.service(29, 30), 1);
        due("service", x.service(30, 40), 0);
        due("service", x.service(20, 20), 0);
        due("service", x.service(45, 25), 0);
        due("service", x.service(-1, 25), NONE);
        due("service", x.service(0, 1800), NONE);
        due("service", x.service(1800, 0), NONE);
        due("service", x.service(0, -1), NONE);
    }

    private static void benefit() {
        PartedPension x = told("serve 240 250 1000;serve 250 280 2000;");
        due("N", x.benefit(0), 40);
        due("FINAL of the last 36", x.benefit(1), 1833);
        due("BASE", x.benefit(2), 122);
        due("FIRST without RETIRES", x.benefit(3), 0);
        x.set(0, 0, 780);
        due("FIRST", x.benefit(3), 122);
        x.set(0, 0, 700);
        due("FIRST, 80 months early", x.benefit(3), 92);
        x.set(0, 0, 600);
        x.set(12, 0, 10);
        due("FIRST, 0 at least", x.benefit(3), 0);
        due("benefit(4)", x.benefit(4), NONE);
        due("benefit(-1)", x.benefit(-1), NONE);
        x = told("serve 5 6 5;");
        due("FINAL of one", x.benefit(1), 5);
        x = told("serve 240 480 100000;early 10;retire 680;");
        due("FIRST, 100 months by 10", x.benefit(3), 0);
        x.set(0, 0, 600);
        due("FIRST, 180 months by 10", x.benefit(3), 0);
        x.set(0, 0, 681);
        due("FIRST, 99 months by 10", x.benefit(3), 400);
        x = told("serve 240 250 7;serve 260 263 8;");
        due("FINAL of fewer", x.benefit(1), 7);
        x = told("born 100;serve 100 1799 1000000;per 400;retire 1799;");
        due("BASE", x.benefit(2), 5663333);
        due("FIRST", x.benefit(3), 5663333);
        x = told("born 100;serve 240 480 1000;retire 870;");
        due("FIRST, 10 months early by BORN", x.benefit(3), 388);
    }

    private static void whole() {
        PartedPension x = told(COUPLE);
        int[][] want = {{0, 0}, {779, 0}, {780, 400}, {791, 400}, {792, 408}, {803, 408}, {804, 416}, {816, 424},
            {-1, NONE}, {1800, NONE}};
        for (int[] row : want) {
            due("whole(" + row[0] + ")", x.whole(row[0]), row[1]);
        }
        x.set(6, 0, 790);
        due("whole behind DIES", x.whole(804), 416);
        x = told("serve 240 480 1000000;retire 785;cola 30;");
        int[][] large = {{785, 400000}, {792, 400000}, {796, 400000}, {797, 412000}, {808, 412000}, {809, 424360}, {821, 437090}};
        for (int[] row : large) {
            due("whole(" + row[0] + ") by COLA 30", x.whole(row[0]), row[1]);
        }
        x.set(0, 0, NONE);
        due("whole without RETIRES", x.whole(900), 0);
    }

    private static void share() {
        PartedPension x = told(COUPLE + "wed 0 430;");
        due("upper", x.share(0, false), 1);
        due("lower", x.share(0, true), 4);
        due("upper, not PARTED", x.share(1, false), 0);
        due("lower, not PARTED", x.share(1, true), 1);
        due("none such", x.share(2, false), NONE);
        due("none such", x.share(-1, true), NONE);
        due("none such", x.share(10, true), NONE);
        x.set(1, 0, 7);
        due("upper", x.share(0, false), 7);
        due("lower", x.share(0, true), 2000);
        x = told("serve 0 3 1;wed 0 0;part 1 7 apart 0;");
        due("upper in least terms already", x.share(0, false), 7);
        due("lower in least terms already", x.share(0, true), 3000);
        x = told("serve 0 5 1;wed 0 0;part 9 1000 apart 0;");
        due("upper of all", x.share(0, false), 1);
        due("lower of all", x.share(0, true), 1);
        x = told("wed 0 0;part 9 1000 apart 0;retire 9;");
        due("upper without service", x.share(0, false), 0);
        due("lower without service", x.share(0, true), 1);
        due("paid without service", x.paid(9, 0), 0);
    }

    private static void paid(PartedPension x, int month, long spouse, long member, long rest) {
        due("paid(" + month + ", 0)", x.paid(month, 0), spouse);
        due("paid(" + month + ", 10)", x.paid(month, 10), member);
        due("paid(" + month + ", 11)", x.paid(month, 11), rest);
    }

    private static void paid() {
        PartedPension x = told(COUPLE);
        paid(x, 779, 0, 0, 0);
        paid(x, 780, 100, 300, 0);
        paid(x, 792, 102, 306, 0);
        x.set(4, 0, 790);
        paid(x, 789, 0, 400, 0);
        paid(x, 790, 100, 300, 0);
        x.set(6, 0, 800);
        paid(x, 799, 102, 306, 0);
        paid(x, 800, 61, 0, 347);
        x.set(5, 0, 801);
        paid(x, 800, 61, 0, 347);
        paid(x, 801, 0, 0, 408);
        x.set(6, 0, NONE);
        paid(x, 801, 0, 408, 0);
        due("no MONTH", x.paid(-1, 0), NO_NUMBER);
        due("no MONTH", x.paid(1800, 10), NO_NUMBER);
        due("no such", x.paid(780, 1), NO_NUMBER);
        due("no such", x.paid(780, 12), NO_NUMBER);
        due("no such", x.paid(780, 9), NO_NUMBER);
        due("no such", x.paid(780, -1), NO_NUMBER);
        paidApart();
    }

    private static void paidApart() {
        PartedPension x = told(COUPLE + FLAT);
        x.set(2, 0, 1);
        paid(x, 779, 0, 0, 0);
        paid(x, 780, 99, 300, 1);
        x.set(4, 0, 1428);
        paid(x, 1427, 0, 300, 100);
        paid(x, 1428, 10069, 300, -9969);
        x.set(6, 0, 1429);
        paid(x, 1429, 10069, 0, -9669);
        x.set(5, 0, 1428);
        paid(x, 1428, 0, 300, 100);
        x = told("serve 240 480 1000;wed 0 300;part 790 500 apart 0;retire 780;" + FLAT);
        paid(x, 789, 0, 400, 0);
        paid(x, 790, 149, 250, 1);
        x.set(2, 0, 0);
        paid(x, 789, 0, 400, 0);
        paid(x, 790, 150, 250, 0);
    }

    private static void sum() {
        PartedPension x = told(COUPLE);
        due("sum", x.sum(0, 780, 793), 1302);
        due("sum", x.sum(0, 0, 793), 1302);
        due("sum", x.sum(10, 780, 793), 3906);
        due("sum", x.sum(11, 780, 793), 0);
        due("sum", x.sum(0, 780, 781), 100);
        due("sum of none", x.sum(0, 780, 780), 0);
        due("sum backwards", x.sum(0, 781, 780), NO_NUMBER);
        due("sum", x.sum(0, -1, 780), NO_NUMBER);
        due("sum", x.sum(0, 0, 1800), NO_NUMBER);
        due("sum", x.sum(1, 0, 780), NO_NUMBER);
        due("sum", x.sum(12, 0, 780), NO_NUMBER);
        due("sum to the end", x.sum(10, 1799, 1799), 0);
        x = told(COUPLE + FLAT);
        x.set(2, 0, 1);
        x.set(4, 0, 1428);
        due("sum below 0", x.sum(11, 1428, 1430), -19938);
    }

    private static void richest() {
        PartedPension x = told("serve 240 480 1000; wed 0 240; part 480 1000 shared 600; retire 780; wed 0 500;");
        due("all alike", x.richest(780), 10);
        due("the spouse", x.richest(781), 0);
        due("no MONTH", x.richest(-1), NONE);
        due("no MONTH", x.richest(1800), NONE);
        x.set(1, 0, 500);
        due("half each", x.richest(781), 10);
        x.set(1, 0, 498);
        due("the member", x.richest(781), 10);
        x = told("serve 240 480 1000; wed 0 240; part 320 1000 shared 0;wed 0 320;part 400 1000 shared 0;"
            + "wed 0 400;part 480 1000 shared 0;retire 780;");
        due("133 each of 400, 1 left", x.richest(800), 0);
        x.set(4, 0, 781);
        due("the member had 134 more", x.richest(781), 10);
        x.set(5, 0, 795);
        x.set(4, 1, 781);
        due("the third", x.richest(798), 2);
    }

    private static void happens() {
        PartedPension x = told(COUPLE + "dies 800;lost 0 800;wed 0 420;");
        int[] want = {24000, 30020, 42021, 42030, 48010, 78040, 78050, 80060, 80070, NONE};
        for (int i = 0; i < want.length; i++) {
            due("happens(" + i + ")", x.happens(i), want[i]);
        }
        due("happens(-1)", x.happens(-1), NONE);
        due("happens(max)", x.happens(Integer.MAX_VALUE), NONE);
        x.set(0, 0, NONE);
        due("no BEGIN without RETIRES", x.happens(5), 80060);
        happensFully();
        x = told("serve 30 40 1;wed 0 20;");
        due("the first was told last", x.happens(0), 2020);
        due("the second", x.happens(1), 3000);
        x = told("serve 30 40 1;serve 20 30 1;wed 0 30;part 40 1 apart 1;retire 40;claim 0 45;");
        int[] second = {2000, 3001, 3010, 3020, 4011, 4030, 4040, 4550, NONE};
        for (int i = 0; i < second.length; i++) {
            due("second happens(" + i + ")", x.happens(i), second[i]);
        }
    }

    /** As much as can happen: 16 of SPANS, 16 of SPOUSES, RETIRES, DIES. */
    private static void happensFully() {
        PartedPension x = told("serve 0 1 1;serve 1 2 1;serve 2 3 1;serve 3 4 1;serve 4 5 1;serve 5 6 1;serve 6 7 1;serve 7 8 1;");
        Feeder.tell(x, "wed 0 0;part 1 1 apart 1;wed 0 1;part 2 1 apart 1;wed 0 2;part 3 1 apart 1;wed 0 3;part 4 1 apart 1;");
        Feeder.tell(x, "lost 0 1;lost 1 1;lost 2 1;lost 3 1;dies 1;retire 8;");
        due("happens(0)", x.happens(0), 0);
        due("happens(1)", x.happens(1), 20);
        due("happens(2)", x.happens(2), 101);
        due("happens(10)", x.happens(10), 170);
        due("happens(28)", x.happens(28), 817);
        due("happens(29)", x.happens(29), 840);
        due("happens(33)", x.happens(33), 853);
        due("happens(34)", x.happens(34), NONE);
    }

    private static void lives() {
        PartedPension x = new PartedPension();
        int[][] first = {{0, 100000}, {1, 99930}, {720, 50000}, {1439, 69}, {1440, 0}, {5000, 0}, {-1, NONE},
            {Integer.MAX_VALUE, 0}, {Integer.MIN_VALUE, NONE}};
        for (int[] row : first) {
            due("lives(" + row[0] + ")", x.lives(row[0]), row[1]);
        }
        Feeder.tell(x, "lives 65 80000;lives 70 80000;lives 1 99999;");
        int[][] second = {{780, 80000}, {779, 80026}, {800, 80000}, {840, 80000}, {841, 79866}, {12, 99999}, {6, 99999}, {1440, 0}};
        for (int[] row : second) {
            due("lives(" + row[0] + ") told", x.lives(row[0]), row[1]);
        }
    }

    private static void discount() {
        PartedPension x = new PartedPension();
        due("V of 0", x.discount(0), 1000000000);
        due("V of 1", x.discount(1), 997506234);
        due("V of 2", x.discount(2), 995018687);
        due("no k", x.discount(-1), NONE);
        due("no k", x.discount(1800), NONE);
        x.set(14, 0, 0);
        due("V of 1799", x.discount(1799), 1000000000);
        x.set(14, 0, 200);
        due("V of 1", x.discount(1), 983606557);
    }

    private static void annuity() {
        PartedPension x = told("wed 100 200;" + FLAT);
        due("of THE MEMBER", x.annuity(10, 780, 780), FLAT_ANNUITY);
        due("from 1428 on", x.annuity(10, 780, 1428), 6499960000L);
        due("of the last month", x.annuity(10, 780, 1439), 83330000L);
        due("beyond", x.annuity(10, 780, 1440), 0);
        due("of the SPOUSE", x.annuity(0, 880, 880), FLAT_ANNUITY);
        due("when LIVES is 0", x.annuity(10, 1500, 1500), 0);
        due("BORN by t", x.annuity(0, 100, 1528), 6499960000L);
        due("not BORN by t", x.annuity(0, 99, 1528), NONE);
        due("s ahead of t", x.annuity(10, 780, 779), NONE);
        due("no MONTH", x.annuity(10, -1, 5), NONE);
        due("no MONTH", x.annuity(10, 5, 1800), NONE);
        due("none such", x.annuity(1, 780, 780), NONE);
        due("none such", x.annuity(11, 780, 780), NONE);
        due("none such", x.annuity(-1, 780, 780), NONE);
        x = told("born 1000;" + FLAT);
        due("not beyond 1799", x.annuity(10, 1000, 1798), 2000000000L);
        due("the last MONTH", x.annuity(10, 1799, 1799), 1000000000L);
        x.set(14, 0, 30);
        due("discounted", x.annuity(10, 1797, 1798), 997506234L + 995018687L);
    }

    private static void own() {
        PartedPension x = told(COUPLE + FLAT);
        due("OWN of one who is SHARED", x.own(0), 99);
        x.set(2, 0, 1);
        due("OWN", x.own(0), 99);
        x.set(4, 0, 1428);
        due("claimed late", x.own(0), 10069);
        x.set(4, 0, 1440);
        due("ANNUITY is 0", x.own(0), 0);
        due("none such", x.own(1), NONE);
        due("none such", x.own(-1), NONE);
        due("none such", x.own(10), NONE);
        x.set(0, 0, NONE);
        due("no RETIRES", x.own(0), NONE);
        x = told("born 0;serve 240 480 1000000;per 400;wed 0 300;part 420 1000 apart 0;retire 780;claim 0 1439;" + FLAT);
        due("1000000000 at most", x.own(0), 1000000000L);
        x = told("serve 240 480 1000;wed 0 300;retire 780;" + FLAT);
        due("not PARTED", x.own(0), 0);
        x = told("serve 240 480 1000;retire 480;wed 481 490;part 600 1000 apart 0;");
        due("BORN behind RETIRES", x.own(0), 0);
    }

    private static void worth() {
        PartedPension x = told(COUPLE + FLAT);
        due("of all", x.worth(10, 780), 261796);
        due("of all, ahead of RETIRES", x.worth(10, 0), 261796);
        due("SHARED", x.worth(0, 780), 65365);
        x.set(2, 0, 1);
        due("APART", x.worth(0, 780), 64789);
        due("APART, ahead of PARTED", x.worth(0, 0), 64789);
        due("from t on", x.worth(0, 1428), 99 + 538);
        x.set(6, 0, 790);
        x.set(5, 0, 790);
        due("DIES is not asked", x.worth(0, 780), 64789);
        due("no MONTH", x.worth(0, -1), NONE);
        due("no MONTH", x.worth(10, 1800), NONE);
        due("none such", x.worth(1, 780), NONE);
        due("none such", x.worth(11, 780), NONE);
        due("none such", x.worth(-1, 780), NONE);
        x.set(0, 0, NONE);
        due("no RETIRES", x.worth(10, 780), NONE);
        due("no RETIRES", x.worth(0, 780), NONE);
        x = told("born 100;serve 240 480 1000;wed 200 300;retire 880;" + FLAT);
        due("THE MEMBER is not BORN", x.worth(10, 99), NONE);
        due("THE MEMBER is BORN", x.worth(10, 100), 261796);
        due("the SPOUSE is not BORN", x.worth(0, 199), NONE);
        due("not PARTED", x.worth(0, 200), 0);
        x = told("serve 1000 1240 1000;born 1000;serve 1000 1240 1000;normal 0;retire 1798;cola 0;lives 119 100000;");
        due("discounted, the last two MONTHS", x.worth(10, 1797), 399 + 398);
    }

    private static void claimBest() {
        PartedPension x = told(LATE);
        due("OWN by 370 months", x.own(0), 1);
        due("549 is 3 times 183", x.claimBest(0), 1617);
        x.set(4, 0, 1617);
        due("OWN by 183 months", x.own(0), 3);
        due("its WORTH", x.worth(0, 1430), 549);
        due("CLAIMS do not count", x.claimBest(0), 1617);
        x.set(1, 0, 520);
        due("571 is prime: 2 times 285, not 1 in 1799", x.claimBest(0), 1515);
        x.set(0, 0, 1429);
        x.set(1, 0, 110);
        due("131 is first had by 131 months, 240 behind RETIRES", x.claimBest(0), 1669);
        x.set(0, 0, 1434);
        x.set(1, 0, 180);
        due("125 is had by 125 months only, 241 behind RETIRES", x.claimBest(0), 1434);
        x.set(0, 0, 1799);
        due("not beyond 1799", x.claimBest(0), 1799);
        x.set(0, 0, 1430);
        x.set(1, 0, 0);
        due("all alike", x.claimBest(0), 1430);
        x.set(2, 0, 0);
        due("SHARED", x.claimBest(0), 1430);
        due("none such", x.claimBest(1), NONE);
        due("none such", x.claimBest(-1), NONE);
        x.set(0, 0, NONE);
        due("no RETIRES", x.claimBest(0), NONE);
        x = told("retire 480;wed 481 490;part 600 1000 apart 0;");
        due("not BORN by RETIRES", x.claimBest(0), NONE);
        x = told("retire 480;wed 480 490;");
        due("BORN by RETIRES, not PARTED", x.claimBest(0), 480);
        x = told("born 480;retire 480;wed 480 490;");
        due("both BORN in RETIRES", x.claimBest(0), 480);
    }

    private static void half() {
        PartedPension x = told(COUPLE + FLAT);
        x.set(3, 0, 1000);
        due("by 1000 it is 130896, half is 130898", x.half(0), NONE);
        x = told("serve 240 480 1000;wed 0 300;part 430 1 shared 1000;retire 780;" + FLAT);
        due("201 is 928 by 13 by 60", x.half(0), 928);
        due("PORTION stays", spouse(x, 0, 3), 1);
        x = told("serve 240 480 600;wed 0 300;part 421 1 shared 1000;retire 780;" + FLAT);
        due("121 of 240 by 1000 alone", x.half(0), 1000);
        x = told("serve 240 480 0;wed 0 300;part 430 1 shared 1000;retire 780;wed 0 500;");
        due("half of 0", x.half(0), 0);
        due("not PARTED", x.half(1), NONE);
        due("none such", x.half(2), NONE);
        due("none such", x.half(-1), NONE);
        x.set(0, 0, NONE);
        due("no RETIRES", x.half(0), NONE);
        x = told("retire 480;wed 481 490;part 600 1000 apart 0;");
        due("not BORN by RETIRES", x.half(0), NONE);
        x = told("serve 240 480 1000;wed 0 240;part 480 1 apart 0;retire 780;" + FLAT);
        due("OWN must be 201, which a SHARE of 202 brings", x.half(0), 505);
    }

    private static void crosses() {
        PartedPension x = told(COUPLE + "interest 0;lives 119 100000;");
        due("APART is 99, SHARED never less", x.crosses(0), NONE);
        x.set(2, 0, 1);
        due("SHARED is more at once", x.crosses(0), 780);
        x.set(2, 0, 0);
        x.set(6, 0, 800);
        due("2079 and 2077", x.crosses(0), 800);
        x.set(3, 0, 610);
        due("2079 and 2078", x.crosses(0), 800);
        x.set(3, 0, 618);
        due("2079 and 2079, then 2178 and 2142", x.crosses(0), 801);
        x.set(5, 0, 800);
        due("they do not live", x.crosses(0), NONE);
        x.set(5, 0, NONE);
        x.set(0, 0, NONE);
        due("no RETIRES", x.crosses(0), NONE);
        due("none such", x.crosses(1), NONE);
        due("none such", x.crosses(-1), NONE);
        x = told("serve 240 480 1000;wed 0 300;retire 780;");
        due("not PARTED", x.crosses(0), NONE);
    }

    private static void tellPromises() {
        at("promise 1");
        newObject();
        at("promise 2");
        feed();
        at("promise 3");
        end();
        at("promise 4");
        tell();
        at("promise 5");
        faultsOfWriting();
        faultsOfNumbers();
        faultsOfPlans();
        at("promise 6");
        set();
        at("promise 7");
        undo();
        at("promise 8");
        count();
        at("promise 9");
        spans();
        at("promise 10");
        spouses();
    }

    private static void monthPromises() {
        at("promise 11");
        service();
        at("promise 12");
        benefit();
        at("promise 13");
        whole();
        at("promise 14");
        share();
        at("promise 15");
        paid();
        at("promise 16");
        sum();
        at("promise 17");
        richest();
        at("promise 18");
        happens();
    }

    private static void worthPromises() {
        at("promise 19");
        lives();
        at("promise 20");
        discount();
        at("promise 21");
        annuity();
        at("promise 22");
        own();
        at("promise 23");
        worth();
        at("promise 24");
        claimBest();
        at("promise 25");
        half();
        at("promise 26");
        crosses();
    }

    public static void main(String[] args) {
        tellPromises();
        monthPromises();
        worthPromises();
        finish("by hand");
    }
}

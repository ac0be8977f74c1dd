/** The sentences of the promises 1 to 10, what is told; and of the constants. */
final class ToldEdges extends Edges {
    private static final String TWO_SPOUSES =
        "born 100;serve 200 300 5;wed 50 200;part 260 500 shared 600;wed 90 270;";
    private static final int[] NO_SPOUSES = {-1, 2, 3, 4, 10, Integer.MIN_VALUE, Integer.MAX_VALUE};

    private ToldEdges() {
    }

    static void all() {
        constants();
        upTo512Calls();
        newObject();
        feedTwenty();
        feedNoMore();
        endTakesOff();
        endRefuses();
        tellCounts();
        tellRefuses();
        faultOfTheLatest();
        setRetires();
        setOfASpouse();
        setDies();
        setTerms();
        setRefuses();
        undoBringsBack();
        undoOfTwelve();
        undoOfNone();
        counts();
        countOfAnotherWhat();
        spanByFrom();
        spanThrows();
        spouseNumbers();
        spouseAheadOfParted();
        spouseThrows();
    }

    private static void constants() {
        says("The constants", "`NONE = -1`: There is none.");
        due("NONE", PartedPension.NONE, -1);
        says("The constants", "`NO_NUMBER = -1000000000000000L`: Told where a number below 0 may be one.");
        due("NO_NUMBER", PartedPension.NO_NUMBER, -1000000000000000L);
    }

    private static void upTo512Calls() {
        says("What it is", "An object is used for at most 512 calls after it has been made; what later calls answer is free.");
        PartedPension x = new PartedPension();
        for (int call = 1; call <= 510; call++) {
            due("call " + call, x.set(10, 0, call % 2), true);
        }
        due("call 511", x.count(7), 12);
        due("call 512", x.count(10), 0);
    }

    private static void newObject() {
        says("Promise 1", "All as at first.");
        PartedPension x = new PartedPension();
        int[] first = {0, 0, 0, 0, NONE, NONE, 0, 0, NONE, NONE, 200, 780, 3, 20, 30, NONE};
        for (int what = 0; what < first.length; what++) {
            due("count(" + what + ")", x.count(what), first[what]);
        }
        due("fault()", x.fault(), 0);
        due("undo()", x.undo(), NONE);
        due("span", span(x, 0, 0), THROWN);
        due("spouse", spouse(x, 0, 0), THROWN);
        due("service", x.service(0, 1799), 0);
        due("richest", x.richest(1799), 10);
        due("happens", x.happens(0), NONE);
        due("lives", x.lives(720), 50000);
        due("a second one's own", told("per 1;").count(10), 1);
        due("the first one's still", x.count(10), 200);
    }

    private static void feedTwenty() {
        says("Promise 2", "Twenty bytes come behind the TAPE, of each number the highest first: how many it has.");
        PartedPension x = new PartedPension();
        due("\"per 7; cola 8;\\nearly\"", x.feed(0x70657220, 0x373b2063, 0x6f6c6120, 0x383b0a65, 0x61726c79), 20);
        due("\" 9;\" and 17 bytes more", x.feed(0x20393bff, 0x80000001, -1, Integer.MIN_VALUE, Integer.MAX_VALUE), 40);
        due("count(6)", x.count(6), 40);
        due("end(23)", x.end(23), true);
        due("behind 23", x.feed(0x20202020, 0x20202020, 0x20202020, 0x20202020, 0x20207878), 43);
        due("end(41)", x.end(41), true);
        due("tell()", x.tell(), 3);
        due("PER", x.count(10), 7);
        due("COLA", x.count(13), 8);
        due("EARLY", x.count(12), 9);
        Feeder.type(x, "per 1;");
        x.feed(0xff000000, 0, 0, 0, 0);
        due("a byte above 127", x.tell(), NONE);
        due("a byte above 127", x.fault(), 1 + 8 * 6);
    }

    private static void feedNoMore() {
        says("Promise 2", "NONE, and none come: more than 400.");
        PartedPension x = new PartedPension();
        for (int i = 1; i <= 20; i++) {
            due("feed " + i, x.feed(0x20202020, 0x20202020, 0x20202020, 0x20202020, 0x20202020), 20 * i);
        }
        due("from 400 on", x.feed(1, 2, 3, 4, 5), NONE);
        due("400 still", x.count(6), 400);
        x.end(399);
        due("from 399 on", x.feed(1, 2, 3, 4, 5), NONE);
        x.end(381);
        due("from 381 on", x.feed(1, 2, 3, 4, 5), NONE);
        due("381 still", x.count(6), 381);
        due("it holds blanks still", x.tell(), 0);
        Feeder.type(x, "per 1;".repeat(63) + "  ");
        due("from 380 on", x.feed(0x70657220, 0x323b2020, 0x20202020, 0x20202020, 0x20202020), 400);
        due("all are told", x.tell(), 64);
        due("the last one, too", x.count(10), 2);
        due("there is room again", x.feed(0, 0, 0, 0, 0), 20);
    }

    private static void endTakesOff() {
        says("Promise 3", "The TAPE has its first n bytes alone: true.");
        PartedPension x = new PartedPension();
        due("0 of 0", x.end(0), true);
        Feeder.type(x, "per 1;per 2;per 3;xx");
        due("20 of 20", x.end(20), true);
        due("18 of 20", x.end(18), true);
        due("count(6)", x.count(6), 18);
        due("12 of 18", x.end(12), true);
        due("tell()", x.tell(), 2);
        due("PER", x.count(10), 2);
        Feeder.type(x, "per 9;");
        due("0 of 6", x.end(0), true);
        due("tell()", x.tell(), 0);
        due("PER", x.count(10), 2);
    }

    private static void endRefuses() {
        says("Promise 3", "false: it has not so many, n is below 0.");
        PartedPension x = new PartedPension();
        due("1 of 0", x.end(1), false);
        due("-1 of 0", x.end(-1), false);
        Feeder.type(x, "per 1;per 2;");
        for (int n : new int[] {13, 20, 400, 401, -1, Integer.MAX_VALUE, Integer.MIN_VALUE}) {
            due("end(" + n + ") of 12", x.end(n), false);
            due("count(6) behind end(" + n + ")", x.count(6), 12);
        }
        due("tell()", x.tell(), 2);
    }

    private static void tellCounts() {
        says("Promise 4", "The TAPE (empty then) is told: how many STATEMENTS.");
        PartedPension x = new PartedPension();
        due("an empty TAPE", x.tell(), 0);
        Feeder.type(x, " \n");
        due("blanks alone", x.tell(), 0);
        due("empty then", x.count(6), 0);
        Feeder.type(x, "per 1;");
        due("one", x.tell(), 1);
        due("empty then", x.count(6), 0);
        due("not told twice", x.tell(), 0);
        Feeder.type(x, "per2;".repeat(80));
        due("as many as can be", x.tell(), 80);
        due("empty then", x.count(6), 0);
        due("each tell of these is undone at once", x.count(7), 2);
    }

    private static void tellRefuses() {
        says("Promise 4", "NONE: a FAULT (all else stays as it was).");
        refusesText("", "born 9;per 7;x", 1, 13);
        refusesText(TWO_SPOUSES, "per 7;lives 5 6;claim 0 9;dies 900;retire 800;part 300 1 apart 1;serve 0 0 0;", 4, 65);
        refusesText(TWO_SPOUSES, "born 9;x", 1, 7);
        refusesText(TWO_SPOUSES, "born 9;serve 9 10 1;wed 9 9;part 10 1 apart 1;lives 119 9;per 401;", 2, 62);
        PartedPension x = new PartedPension();
        x.set(10, 0, 5);
        Feeder.tell(x, "per 6;x");
        due("the latest that was done is the set()", x.undo(), 0);
        due("PER", x.count(10), 200);
    }

    private static void faultOfTheLatest() {
        says("Promise 5", "FAULT of the latest tell(); 0 without, and ahead of any.");
        PartedPension x = new PartedPension();
        due("ahead of any", x.fault(), 0);
        Feeder.tell(x, "per 401;");
        due("2 and 8 times 4", x.fault(), 34);
        x.set(10, 0, 5);
        x.undo();
        x.feed(0, 0, 0, 0, 0);
        x.end(0);
        due("no other call changes it", x.fault(), 34);
        Feeder.tell(x, "x");
        due("the latest: 1 and 8 times 0", x.fault(), 1);
        Feeder.tell(x, "per 7;");
        due("without", x.fault(), 0);
        x.undo();
        due("undone", x.fault(), 0);
        Feeder.tell(x, "x");
        due("an empty TAPE", x.tell(), 0);
        due("an empty TAPE has none", x.fault(), 0);
    }

    private static void setRetires() {
        says("Promise 6", "One is changed: what 0: RETIRES (NONE: not told),");
        due("the least", takesSet(TWO_SPOUSES, 0, 0, 300).count(4), 300);
        due("the most", takesSet(TWO_SPOUSES, 0, 0, 1799).count(4), 1799);
        refusesSet(TWO_SPOUSES, 0, 0, 299);
        refusesSet(TWO_SPOUSES, 0, 0, 1800);
        refusesSet(TWO_SPOUSES, 0, 0, -2);
        refusesSet(TWO_SPOUSES, 0, 0, NONE);
        due("not told", takesSet(TWO_SPOUSES + "retire 300;", 0, 0, NONE).count(4), NONE);
        due("0", takesSet("", 0, 0, 0).count(4), 0);
    }

    private static void setOfASpouse() {
        says("Promise 6", "1: PORTION, 2: HOW, 3: SURVIVOR, 4: CLAIMS, 5: DIES (NONE: not told) of SPOUSE k"
            + " (1 to 3: one who is PARTED),");
        int[] most = {0, 1000, 1, 1000, 1799, 1799};
        for (int what = 1; what <= 5; what++) {
            due("what " + what, spouse(takesSet(TWO_SPOUSES, what, 0, most[what]), 0, what + 2), most[what]);
            refusesSet(TWO_SPOUSES, what, 0, most[what] + 1);
            refusesSet(TWO_SPOUSES, what, 0, Integer.MIN_VALUE);
            for (int k : NO_SPOUSES) {
                refusesSet(TWO_SPOUSES, what, k, 1);
            }
        }
        for (int what = 1; what <= 3; what++) {
            refusesSet(TWO_SPOUSES, what, 1, 1);
            refusesSet(TWO_SPOUSES, what, 0, NONE);
        }
        due("CLAIMS of one who is not PARTED", spouse(takesSet(TWO_SPOUSES, 4, 1, 7), 1, 6), 7);
        refusesSet(TWO_SPOUSES, 4, 1, NONE);
        due("DIES of one who is not PARTED", spouse(takesSet(TWO_SPOUSES, 5, 1, 91), 1, 7), 91);
        refusesSet(TWO_SPOUSES, 5, 1, 90);
        refusesSet(TWO_SPOUSES, 5, 1, -2);
        due("DIES is not told", spouse(takesSet(TWO_SPOUSES + "lost 1 91;", 5, 1, NONE), 1, 7), NONE);
        PartedPension x = takesSet(TWO_SPOUSES, 1, 0, 7);
        due("the others stay", spouse(x, 0, 5), 600);
        due("the other one stays", spouse(x, 1, 3), 0);
    }

    private static void setDies() {
        says("Promise 6", "6: DIES of THE MEMBER (NONE: not told),");
        due("the least", takesSet(TWO_SPOUSES, 6, 0, 101).count(5), 101);
        due("the most", takesSet(TWO_SPOUSES, 6, 0, 1799).count(5), 1799);
        refusesSet(TWO_SPOUSES, 6, 0, 100);
        refusesSet(TWO_SPOUSES, 6, 0, 1800);
        refusesSet(TWO_SPOUSES, 6, 0, -2);
        refusesSet("", 6, 0, 0);
        due("1", takesSet("", 6, 0, 1).count(5), 1);
        due("not told", takesSet(TWO_SPOUSES + "dies 900;", 6, 0, NONE).count(5), NONE);
    }

    private static void setTerms() {
        says("Promise 6", "10 to 14: PER, NORMAL, EARLY, COLA, INTEREST (k counts in 1 to 5 alone): true.");
        int[] most = {400, 1200, 10, 30, 200};
        for (int i = 0; i < most.length; i++) {
            due("the most", takesSet("", 10 + i, 99, most[i]).count(10 + i), most[i]);
            due("0", takesSet("", 10 + i, -99, 0).count(10 + i), 0);
            refusesSet("", 10 + i, 0, most[i] + 1);
            refusesSet("", 10 + i, 0, NONE);
        }
        for (int k : NO_SPOUSES) {
            due("RETIRES, k is " + k, takesSet(TWO_SPOUSES, 0, k, 700).count(4), 700);
            due("DIES, k is " + k, takesSet(TWO_SPOUSES, 6, k, 700).count(5), 700);
        }
    }

    private static void setRefuses() {
        says("Promise 6", "false: it is so, it can't be.");
        String full = TWO_SPOUSES + "claim 0 9;lost 0 70;retire 300;dies 301;";
        int[][] so = {{0, 300}, {1, 500}, {2, 0}, {3, 600}, {4, 9}, {5, 70}, {6, 301},
            {10, 200}, {11, 780}, {12, 3}, {13, 20}, {14, 30}};
        for (int[] row : so) {
            refusesSet(full, row[0], 0, row[1]);
        }
        refusesSet(TWO_SPOUSES, 0, 0, NONE);
        refusesSet(TWO_SPOUSES, 5, 0, NONE);
        refusesSet(TWO_SPOUSES, 6, 0, NONE);
        for (int what : new int[] {-1, 7, 8, 9, 15, 16, Integer.MIN_VALUE, Integer.MAX_VALUE}) {
            refusesSet(full, what, 0, 1);
        }
    }

    private static void undoBringsBack() {
        says("Promise 7", "All is as it was ahead of the latest set(), or tell() of one or more STATEMENTS, that was done");
        PartedPension x = told(TWO_SPOUSES + "claim 0 9;lost 0 70;retire 300;dies 301;lives 50 60000;per 7;");
        String was = state(x);
        Feeder.tell(x, "born 0;serve 0 9 1;wed 0 1;lives 50 1;lives 51 0;");
        due("undo of born", x.undo(), 1);
        same("undo of born", state(x), was);
        x.set(4, 0, 10);
        due("undo of set", x.undo(), 1);
        same("undo of set", state(x), was);
        x = new PartedPension();
        due("a set", x.set(10, 0, 1), true);
        Feeder.tell(x, "");
        Feeder.tell(x, " ");
        Feeder.tell(x, "per 3;x");
        x.set(10, 0, 1);
        x.set(10, 0, 401);
        due("what was not done is not counted", x.count(7), 1);
        Feeder.tell(x, "per 1;");
        due("a STATEMENT that tells what is so", x.count(7), 2);
        due("it is undone", x.undo(), 1);
        due("PER stays", x.count(10), 1);
        due("the set is undone", x.undo(), 0);
        due("PER", x.count(10), 200);
        x.set(10, 0, 1);
        Feeder.type(x, "per 2;");
        due("undo", x.undo(), 0);
        due("the TAPE stays", x.tell(), 1);
        due("PER", x.count(10), 2);
    }

    private static void undoOfTwelve() {
        says("Promise 7", "(the latest 12): how many of these are left.");
        for (int done = 11; done <= 14; done++) {
            PartedPension x = new PartedPension();
            for (int v = 0; v < done; v++) {
                x.set(10, 0, v);
            }
            int most = Math.min(12, done);
            due("count(7) of " + done, x.count(7), most);
            for (int left = most - 1; left >= 0; left--) {
                due("undo", x.undo(), left);
                int now = done - most + left - 1;
                due("PER", x.count(10), now < 0 ? 200 : now);
            }
            due("undo of none", x.undo(), NONE);
        }
        PartedPension x = new PartedPension();
        for (int v = 0; v < 20; v++) {
            x.set(10, 0, v);
        }
        due("undo", x.undo(), 11);
        x.set(10, 0, 50);
        due("12 again", x.count(7), 12);
        due("undo", x.undo(), 11);
        due("PER", x.count(10), 18);
    }

    private static void undoOfNone() {
        says("Promise 7", "NONE: none can be undone.");
        PartedPension x = new PartedPension();
        due("a new one", x.undo(), NONE);
        x.set(10, 0, 1);
        x.undo();
        due("an undo is not undone", x.undo(), NONE);
        due("PER", x.count(10), 200);
        due("count(7)", x.count(7), 0);
        Feeder.tell(x, "x");
        due("a FAULT", x.undo(), NONE);
        x.tell();
        due("no STATEMENT", x.undo(), NONE);
    }

    private static void counts() {
        says("Promise 8", "What 0: SPANS, 1: SPOUSES, 2: years told of LIVES, 3: BORN, 4: RETIRES (NONE), 5: DIES (NONE),"
            + " 6: bytes of the TAPE, 7: how many can be undone, 10 to 14: TERMS.");
        PartedPension x = told(TWO_SPOUSES, "lives 50 9;lives 50 8;lives 51 7;lives 52 6;retire 400;dies 500;"
            + "per 11;normal 12;early 4;cola 13;interest 14;");
        x.feed(0, 0, 0, 0, 0);
        x.end(17);
        int[] want = {1, 2, 3, 100, 400, 500, 17, 2, NONE, NONE, 11, 12, 4, 13, 14};
        for (int what = 0; what < want.length; what++) {
            due("count(" + what + ")", x.count(what), want[what]);
        }
        x.set(0, 0, NONE);
        x.set(6, 0, NONE);
        due("RETIRES", x.count(4), NONE);
        due("DIES", x.count(5), NONE);
    }

    private static void countOfAnotherWhat() {
        says("Promise 8", "NONE for another what.");
        PartedPension x = told(TWO_SPOUSES);
        for (int what : new int[] {-1, 8, 9, 15, 16, Integer.MIN_VALUE, Integer.MAX_VALUE}) {
            due("count(" + what + ")", x.count(what), NONE);
        }
    }

    private static void spanByFrom() {
        says("Promise 9", "Of the k-th SPAN (by FROM), what 0: FROM, 1: TO, 2: PAY.");
        PartedPension x = told("serve 20 30 7;serve 40 50 8;serve 0 1 1000000;serve 30 40 0;");
        int[][] want = {{0, 1, 1000000}, {20, 30, 7}, {30, 40, 0}, {40, 50, 8}};
        for (int k = 0; k < want.length; k++) {
            for (int what = 0; what < 3; what++) {
                due("span(" + k + ", " + what + ")", span(x, k, what), want[k][what]);
            }
        }
    }

    private static void spanThrows() {
        says("Promise 9", "NoSuchElementException: there is none such, another what.");
        PartedPension x = new PartedPension();
        due("none", span(x, 0, 0), THROWN);
        Feeder.tell(x, "serve 0 1 1;serve 1 2 1;");
        for (int k : NO_SPOUSES) {
            due("span(" + k + ", 0) of two", span(x, k, 0), THROWN);
        }
        for (int what : new int[] {-1, 3, 10, Integer.MIN_VALUE, Integer.MAX_VALUE}) {
            due("span(1, " + what + ")", span(x, 1, what), THROWN);
        }
        Feeder.tell(x, "serve 2 3 1;serve 3 4 1;serve 4 5 1;serve 5 6 1;serve 6 7 1;serve 7 8 9;");
        due("the 8th", span(x, 7, 2), 9);
        due("a 9th", span(x, 8, 2), THROWN);
        x.undo();
        due("the 8th is undone", span(x, 7, 2), THROWN);
    }

    private static void spouseNumbers() {
        says("Promise 10", "Of a SPOUSE, what 0: BORN, 1: WED, 2: PARTED (NONE), 3: PORTION, 4: HOW, 5: SURVIVOR, 6: CLAIMS,"
            + " 7: DIES (NONE), 8: W, 9: BEGIN (NONE without RETIRES).");
        PartedPension x = told(TWO_SPOUSES + "claim 0 900;lost 1 950;");
        int[][] want = {{50, 200, 260, 500, 0, 600, 900, NONE, 60, NONE}, {90, 270, NONE, 0, 0, 0, 0, 950, 0, NONE}};
        for (int k = 0; k < want.length; k++) {
            for (int what = 0; what < 10; what++) {
                due("spouse(" + k + ", " + what + ")", spouse(x, k, what), want[k][what]);
            }
        }
        x.set(0, 0, 300);
        due("BEGIN is CLAIMS", spouse(x, 0, 9), 900);
        due("BEGIN is RETIRES, not PARTED", spouse(x, 1, 9), 300);
    }

    private static void spouseAheadOfParted() {
        says("Promise 10", "(3 to 5: 0 ahead of PARTED.)");
        PartedPension x = told(TWO_SPOUSES);
        for (int what = 3; what <= 5; what++) {
            due("spouse(1, " + what + ")", spouse(x, 1, what), 0);
        }
        Feeder.tell(x, "part 271 7 apart 8;");
        int[] parted = {7, 1, 8};
        for (int what = 3; what <= 5; what++) {
            due("spouse(1, " + what + ")", spouse(x, 1, what), parted[what - 3]);
        }
        x.undo();
        Feeder.tell(x, "part 271 0 shared 0;wed 0 271;");
        for (int what = 3; what <= 5; what++) {
            due("spouse(2, " + what + ")", spouse(x, 2, what), 0);
        }
    }

    private static void spouseThrows() {
        says("Promise 10", "NoSuchElementException: there is none such, another what.");
        PartedPension x = new PartedPension();
        due("none", spouse(x, 0, 0), THROWN);
        Feeder.tell(x, TWO_SPOUSES);
        for (int k : NO_SPOUSES) {
            due("spouse(" + k + ", 0) of two", spouse(x, k, 0), THROWN);
        }
        for (int what : new int[] {-1, 10, 11, Integer.MIN_VALUE, Integer.MAX_VALUE}) {
            due("spouse(1, " + what + ")", spouse(x, 1, what), THROWN);
        }
        x = told("wed 0 1;part 2 1 apart 1;wed 0 2;part 3 1 apart 1;wed 0 3;part 4 1 apart 1;wed 7 8;");
        due("the 4th", spouse(x, 3, 0), 7);
        due("a 5th", spouse(x, 4, 0), THROWN);
        x.undo();
        due("the first is undone", spouse(x, 0, 0), THROWN);
    }
}

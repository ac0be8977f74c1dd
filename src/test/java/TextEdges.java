/** The sentences of "Terms", 4: TEXTS, TOKENS, FAULTS. */
final class TextEdges extends Edges {
    private static final String WED = "wed 0 5;";
    private static final String ALL_TOLD = "serve 5 9 7;wed 0 5;part 9 500 apart 600;claim 0 20;lost 0 30;retire 40;dies 50;"
        + "lives 50 60000;per 1;normal 2;early 4;cola 5;interest 6;";

    private TextEdges() {
    }

    static void all() {
        atMost400Bytes();
        statements();
        marriageStatements();
        numberStatements();
        words();
        numbers();
        blanks();
        oneByOne();
        placeOfAFault();
        firstAlongTheText();
        ofOnePlaceTheLeast();
        cantStandThere();
        cantBeByItself();
        oneTooMany();
        cantBeByWhatThereIs();
        inPlaceOfThose();
    }

    private static void atMost400Bytes() {
        says("Terms 4", "TEXTS, at most 400 bytes: { STATEMENT ; }.");
        fine("", 0);
        fine("per1;".repeat(80), 80);
        fine("per1;".repeat(79) + "per2;", 80);
        fault("per1;".repeat(79) + "per 2", 1, 400);
        fault("per1;".repeat(79) + "per2 ", 1, 400);
        fault("per1;".repeat(79) + "per1x", 1, 399);
        PartedPension x = new PartedPension();
        Feeder.type(x, "per1;".repeat(80));
        due("20 bytes more", x.feed(0, 0, 0, 0, 0), NONE);
        due("it is told all the same", x.tell(), 80);
        fault(";", 1, 0);
        fault("per 1;;", 1, 6);
        fault("per 1", 1, 5);
        fault("per 1 per 2;", 1, 6);
    }

    /** Every TOKEN of the statement that is missing, or one too many, is a FAULT where another one stands. */
    private static void shape(String before, String statement) {
        String[] tokens = statement.split(" ");
        StringBuilder text = new StringBuilder();
        for (int i = 0; i < tokens.length; i++) {
            text.append(i == 0 ? "" : " ").append(tokens[i]);
            boolean whole = i == tokens.length - 1;
            if (!whole) {
                refusesText(before, text + ";", 1, text.length());
                refusesText(before, text + " ;", 1, text.length() + 1);
                refusesText(before, text + " per 1;", 1, text.length() + 1);
            }
            refusesText(before, text.toString(), 1, text.length());
        }
        refusesText(before, text + " 5;", 1, text.length() + 1);
        refusesText(before, text + " per 1;", 1, text.length() + 1);
        takesText(before, text + ";", 1);
    }

    private static void statements() {
        says("Terms 4", "STATEMENT: born NUMBER (all else is as at first then)");
        shape("", "born 5");
        PartedPension x = told(ALL_TOLD, "born 44;");
        int[] first = {0, 0, 0, 44, NONE, NONE, 0, 2, NONE, NONE, 200, 780, 3, 20, 30};
        for (int what = 0; what < first.length; what++) {
            due("count(" + what + ")", x.count(what), first[what]);
        }
        due("LIVES", x.lives(600), 58333);
        due("happens", x.happens(0), NONE);
        due("N", x.benefit(0), 0);
        due("FINAL", x.benefit(1), 0);
        due("the same BORN", told(ALL_TOLD, "born 0;").count(0), 0);
        says("Terms 4", "| serve NUMBER NUMBER NUMBER (a SPAN more: FROM, TO, PAY)");
        shape("", "serve 5 9 7");
        x = told("serve 20 30 1;", "serve 5 9 7;");
        due("a SPAN more", x.count(0), 2);
        due("FROM", span(x, 0, 0), 5);
        due("TO", span(x, 0, 1), 9);
        due("PAY", span(x, 0, 2), 7);
    }

    private static void marriageStatements() {
        says("Terms 4", "| wed NUMBER NUMBER (a SPOUSE more: BORN, WED)");
        shape("", "wed 3 5");
        PartedPension x = told("wed 3 5;part 6 7 apart 8;claim 0 9;lost 0 10;", "wed 4 6;");
        int[] anew = {4, 6, NONE, 0, 0, 0, 0, NONE, 0, NONE};
        PartedPension y = told(ALL_TOLD, "born 0;wed 4 6;");
        for (int what = 0; what < anew.length; what++) {
            due("spouse(1, " + what + ")", spouse(x, 1, what), anew[what]);
            due("behind born, spouse(0, " + what + ")", spouse(y, 0, what), anew[what]);
        }
        says("Terms 4", "| part NUMBER NUMBER HOW NUMBER (the last SPOUSE: PARTED, PORTION, SURVIVOR; HOW: shared or apart)");
        shape(WED, "part 9 500 apart 600");
        shape(WED, "part 9 500 shared 600");
        x = told("wed 3 5;part 6 7 apart 8;wed 4 6;", "part 19 500 apart 600;");
        int[] parted = {19, 500, 1, 600};
        for (int what = 0; what < parted.length; what++) {
            due("spouse(1, " + (what + 2) + ")", spouse(x, 1, what + 2), parted[what]);
        }
        due("PARTED of the one ahead", spouse(x, 0, 2), 6);
        says("Terms 4", "| claim NUMBER NUMBER (SPOUSE, MONTH)");
        shape(WED, "claim 0 9");
        due("CLAIMS", spouse(told("wed 3 5;part 6 7 apart 8;wed 4 6;claim 1 70;"), 1, 6), 70);
        says("Terms 4", "| lost NUMBER NUMBER (SPOUSE, DIES)");
        shape(WED, "lost 0 9");
        due("DIES", spouse(told("wed 3 5;part 6 7 apart 8;wed 4 6;lost 1 70;"), 1, 7), 70);
    }

    private static void numberStatements() {
        says("Terms 4", "| lives NUMBER NUMBER (years, how many)");
        shape("", "lives 50 60000");
        due("LIVES", told("lives 50 60000;").lives(600), 60000);
        says("Terms 4", "| dies NUMBER (THE MEMBER)");
        shape("", "dies 5");
        due("DIES", told("dies 5;").count(5), 5);
        says("Terms 4", "| retire NUMBER");
        shape("", "retire 5");
        due("RETIRES", told("retire 5;").count(4), 5);
        String[] terms = {"per", "normal", "early", "cola", "interest"};
        for (int i = 0; i < terms.length; i++) {
            says("Terms 4", "| " + terms[i] + " NUMBER" + (i == 4 ? "." : ""));
            shape("", terms[i] + " 5");
            due(terms[i], told(terms[i] + " 5;").count(10 + i), 5);
        }
    }

    private static void words() {
        says("Terms 4", "TOKENS: words (letters a to z, as many as stand there),");
        for (String word : new String[] {"born", "serve", "wed", "part", "lives", "claim", "lost", "dies", "retire", "per", "normal",
            "early", "cola", "interest"}) {
            int last = word.length() - 1;
            fault(word + " ", 1, last + 2);
            fault("x" + word.substring(1) + " ", 1, 0);
            fault(word.substring(0, last) + "x ", 1, 0);
            fault(word.substring(0, last) + " ", 1, 0);
            fault(word.substring(1) + " ", 1, 0);
            fault(word + "x ", 1, 0);
        }
        fine("per1;", 1);
        fault("pe1;", 1, 0);
        fault("pera1;", 1, 0);
        fault("perz1;", 1, 0);
        fault("per" + (char) 96 + "1;", 1, 3);
        fault("per{1;", 1, 3);
        fault("Per1;", 1, 0);
        fault("pEr1;", 1, 0);
        fault("p er1;", 1, 0);
        fault("perper1;", 1, 0);
        fault("a1;", 1, 0);
        fault("z1;", 1, 0);
        fault("per" + (char) 225 + "1;", 1, 3);
        refusesText(WED, "part 9 500 aparta 600;", 1, 11);
        takesText(WED, "part9 500apart600;", 1);
    }

    private static void numbers() {
        says("Terms 4", "NUMBERS (1 to 7 digits, as many as stand there), ; ;");
        due("1 digit", told("per 0;").count(10), 0);
        due("1 digit", told("per 9;").count(10), 9);
        due("7 digits", told("per 0000009;").count(10), 9);
        due("7 digits", span(told("serve 0000000 0000001 1000000;"), 0, 2), 1000000);
        fault("per 00000009;", 1, 4);
        fault("per 0000000000000000000000000000009;", 1, 4);
        fault("per 9999999;", 2, 4);
        fault("per /;", 1, 4);
        fault("per :;", 1, 4);
        fault("per 1/;", 1, 5);
        fault("per 1:;", 1, 5);
        fault("per 1 2;", 1, 6);
        fault("per -1;", 1, 4);
        fault("per +1;", 1, 4);
        fault("per 1.;", 1, 5);
        fault("per 1x;", 1, 5);
        fault("per 1:", 1, 5);
    }

    private static void blanks() {
        says("Terms 4", "blanks (32, 10) between or not.");
        fine(" ", 0);
        fine("\n", 0);
        fine(" \n ".repeat(133), 0);
        fine("born5;per6;", 2);
        fine("\n born \n 5 \n ; \n per \n 6 \n ; \n", 2);
        for (char sign : new char[] {0, 9, 11, 13, 31, 33, 160}) {
            fault("per" + sign + "1;", 1, 3);
            fault("per 1;" + sign, 1, 6);
            fault(sign + "per 1;", 1, 0);
        }
    }

    private static void oneByOne() {
        says("Terms 4", "STATEMENTS are done one by one.");
        due("the later one counts", told("per 1;per 2;").count(10), 2);
        fine("wed 0 5;claim 0 9;part 9 1 apart 1;wed 0 9;claim 1 9;", 5);
        fault("claim 0 9;wed 0 5;", 2, 6);
        fault("part 9 1 apart 1;wed 0 5;", 4, 0);
        fine("born 10;serve 10 20 5;born 30;serve 30 40 5;", 4);
        fault("serve 10 20 5;born 30;serve 10 20 5;", 4, 22);
        fault("retire 15;serve 10 20 5;retire 20;", 4, 10);
        fine("retire 15;retire 20;serve 10 20 5;", 3);
    }

    private static void placeOfAFault() {
        says("Terms 4", "FAULTS, told as kind and 8 times the place (a TOKEN's first byte; the end's: the text's length) together,");
        fault("x", 1, 0);
        fault("  xyz", 1, 2);
        fault("per xyz;", 1, 4);
        fault("per   401;", 2, 6);
        fault("per\n\n401;", 2, 5);
        fault("per 1; serve 5 5 5;", 4, 7);
        fault("per", 1, 3);
        fault("per  ", 1, 5);
        fault("per 1\n", 1, 6);
        fault(" ".repeat(399) + "x", 1, 399);
        fault(" ".repeat(396) + "per ", 1, 400);
        PartedPension x = new PartedPension();
        Feeder.tell(x, " ".repeat(396) + "per ");
        due("1 and 8 times 400", x.fault(), 3201);
    }

    private static void firstAlongTheText() {
        says("Terms 4", "the first along the text,");
        fault("per 401;cola 31;", 2, 4);
        fault("per 401;x", 2, 4);
        fault("x;per 401;", 1, 0);
        fault("serve 5 5 5;per 401;", 4, 0);
        fault("per 401;serve 5 5 5;", 2, 4);
        fault("serve 1800 1800 9999999;", 2, 6);
        fault("serve 5 5 5;" + (char) 0, 4, 0);
        fault("serve 5 5 x;", 1, 10);
        fault("serve 5 5 1000001;", 2, 10);
        fault("serve 5 5 5", 1, 11);
        fault("wed 0 5;part 1800 x", 2, 13);
    }

    private static void ofOnePlaceTheLeast() {
        says("Terms 4", "of one place the least:");
        fault("per 99999999;", 1, 4);
        fault("claim 00000000 5;", 1, 6);
        fault(EIGHT_SPANS + "serve 0 1 1;", 3, 96);
        fault(FOUR_SPOUSES + "wed 0 4;", 3, 83);
        fault(FOUR_SPOUSES + "wed 9 8;", 3, 83);
    }

    private static void cantStandThere() {
        says("Terms 4", "1 what can't stand there (a NUMBER of more digits, too).");
        fault("7;", 1, 0);
        fault("shared;", 1, 0);
        fault("per per;", 1, 4);
        fault("per ;", 1, 4);
        fault("per shared;", 1, 4);
        fault("per 1 2;", 1, 6);
        fault("per 1 12345678;", 1, 6);
        fault("12345678", 1, 0);
        refusesText(WED, "part 9 1 12345678 1;", 1, 9);
        refusesText(WED, "part 9 1 per 1;", 1, 9);
        fault("per #;", 1, 4);
        fault("per 1 " + (char) 200, 1, 6);
    }

    private static void cantBeByItself() {
        says("Terms 4", "2 a NUMBER that can't be by itself (beyond its bounds; no such SPOUSE).");
        fault("born 1800;", 2, 5);
        fault("serve 1800 5 5;", 2, 6);
        fault("serve 5 1800 5;", 2, 8);
        fault("serve 5 9 1000001;", 2, 10);
        fault("wed 1800 5;", 2, 4);
        fault("wed 5 1800;", 2, 6);
        refusesText(WED, "part 1800 5 apart 5;", 2, 5);
        refusesText(WED, "part 9 1001 apart 5;", 2, 7);
        refusesText(WED, "part 9 5 apart 1001;", 2, 15);
        fault("lives 0 5;", 2, 6);
        fault("lives 120 5;", 2, 6);
        fault("lives 5 100001;", 2, 8);
        fault("dies 1800;", 2, 5);
        fault("retire 1800;", 2, 7);
        fault("claim 0 9;", 2, 6);
        fault("lost 0 9;", 2, 5);
        takesText(WED, "claim 0 9;lost 0 9;", 2);
        refusesText(WED, "claim 1 9;", 2, 6);
        refusesText(WED, "lost 1 9;", 2, 5);
        refusesText(WED, "claim 0 1800;", 2, 8);
        refusesText(WED, "lost 0 1800;", 2, 7);
        refusesText("", "wed 0 5;born 0;claim 0 9;", 2, 21);
        takesText(FOUR_SPOUSES, "claim 3 9;lost 3 9;", 2);
        refusesText(FOUR_SPOUSES, "claim 4 9;", 2, 6);
        refusesText(FOUR_SPOUSES, "lost 9999999 9;", 2, 5);
    }

    private static void oneTooMany() {
        says("Terms 4", "3 a 9th SPAN, a 5th SPOUSE, at its word.");
        fine(EIGHT_SPANS, 8);
        fault(EIGHT_SPANS + "  serve 8 9 1;", 3, 98);
        fault(EIGHT_SPANS + "serve", 3, 96);
        fault(EIGHT_SPANS + "serve x", 3, 96);
        fault(EIGHT_SPANS + "serve 1800 9 1;", 3, 96);
        fine(EIGHT_SPANS + "born 0;serve 0 1 1;", 10);
        String four = FOUR_SPOUSES + "part 5 1 apart 1;";
        fine(four, 8);
        fault(four + "\nwed 0 5;", 3, 101);
        fault(four + "wed", 3, 100);
        fault(four + "wed 1800", 3, 100);
        fine(four + "born 0;wed 0 0;", 10);
    }

    private static void cantBeByWhatThereIs() {
        says("Terms 4", "4 at the word of a STATEMENT that is told whole (its ;, too) but can't be by what there is"
            + " (TO not above FROM, MONTHS in common, nobody WED to be PARTED, LIVES that rise, an 11th year of them, and so on;");
        fault("per 1; serve 5 5 7;", 4, 7);
        fault("per 1; serve 5 5 7", 1, 18);
        fault("per 1; serve 5 5 7 7;", 1, 19);
        fault("serve 5 9 7; serve 8 10 7;", 4, 13);
        fault(" part 9 1 apart 1;", 4, 1);
        fault("wed 0 5;part 9 1 apart 1; part 10 1 apart 1;", 4, 26);
        fault("lives 50 5; lives 51 6;", 4, 12);
        String ten = "lives 1 1;lives 2 1;lives 3 1;lives 4 1;lives 5 1;lives 6 1;lives 7 1;lives 8 1;lives 9 1;lives 10 1;";
        fine(ten, 10);
        fault(ten + " lives 11 1;", 4, 102);
        fault("born 5; retire 4;", 4, 8);
        fault("born 5; dies 5;", 4, 8);
        fault("born 5; serve 4 9 1;", 4, 8);
        fault("born 5; wed 0 4;", 4, 8);
        fault("wed 0 5; wed 0 9;", 4, 9);
        fault("wed 0 5; part 5 1 apart 1;", 4, 9);
        fault("wed 4 5; lost 0 4;", 4, 9);
        fault("retire 5; serve 4 6 1;", 4, 10);
        fault("serve 4 6 1; retire 5;", 4, 13);
    }

    private static void inPlaceOfThose() {
        says("Terms 4", "lives of years already told, RETIRES, CLAIMS, DIES, TERMS told anew are in place of those).");
        PartedPension x = told(ALL_TOLD, "lives 50 50000;retire 41;claim 0 21;lost 0 31;dies 51;"
            + "per 11;normal 12;early 3;cola 15;interest 16;");
        due("years told of LIVES", x.count(2), 1);
        due("LIVES", x.lives(600), 50000);
        due("RETIRES", x.count(4), 41);
        due("CLAIMS", spouse(x, 0, 6), 21);
        due("DIES of the SPOUSE", spouse(x, 0, 7), 31);
        due("DIES", x.count(5), 51);
        int[] terms = {11, 12, 3, 15, 16};
        for (int i = 0; i < terms.length; i++) {
            due("TERMS", x.count(10 + i), terms[i]);
        }
        due("the same once more", Feeder.tell(x, "lives 50 50000;retire 41;claim 0 21;lost 0 31;dies 51;per 11;"), 6);
        due("it can be undone", x.count(7), 3);
    }
}

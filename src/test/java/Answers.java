import java.util.NoSuchElementException;

/** What the tests by hand have in common: calls whose answer is due, counted, and told where it is another. */
abstract class Answers {
    static final int NONE = PartedPension.NONE;
    static final long NO_NUMBER = PartedPension.NO_NUMBER;
    /** Stands for a NoSuchElementException; no call answers it. */
    static final int THROWN = -77;

    /** 240 months of service, half of them married: BASE 400, a SHARE of a quarter. */
    static final String COUPLE = "born 0; serve 240 480 1000; wed 0 300; part 420 500 shared 600; retire 780;";
    /** Everybody lives up to 119 years and nothing is discounted: sums can be made by hand. */
    static final String FLAT = "interest 0; cola 0; lives 119 100000;";
    /** ANNUITY by FLAT of one of 780 months: 648 full months, then 12 on the line to 0. */
    static final long FLAT_ANNUITY = 654499960000L;

    private static String where = "";
    private static int asked = 0;
    private static int wrong = 0;

    static void at(String place) {
        where = place;
    }

    static void due(String call, long got, long want) {
        asked++;
        if (got != want) {
            amiss(call + " answered " + got + ", due is " + want);
        }
    }

    static void due(String call, boolean got, boolean want) {
        due(call, got ? 1 : 0, want ? 1 : 0);
    }

    static void amiss(String what) {
        wrong++;
        System.out.println(where + ": " + what);
    }

    static PartedPension told(String... texts) {
        PartedPension x = new PartedPension();
        for (String text : texts) {
            if (Feeder.tell(x, text) < 0) {
                amiss("tell of " + text + " has the fault " + x.fault());
            }
        }
        return x;
    }

    static void fault(String text, int kind, int place) {
        PartedPension x = new PartedPension();
        due("tell of " + text, Feeder.tell(x, text), NONE);
        due("fault of " + text, x.fault(), kind + 8 * place);
        due("count(6) behind " + text, x.count(6), 0);
        due("count(7) behind " + text, x.count(7), 0);
    }

    static void fine(String text, int statements) {
        PartedPension x = new PartedPension();
        due("tell of " + text, Feeder.tell(x, text), statements);
        due("fault of " + text, x.fault(), 0);
    }

    static int span(PartedPension x, int k, int what) {
        try {
            return x.span(k, what);
        } catch (NoSuchElementException e) {
            return THROWN;
        }
    }

    static int spouse(PartedPension x, int k, int what) {
        try {
            return x.spouse(k, what);
        } catch (NoSuchElementException e) {
            return THROWN;
        }
    }

    static void finish(String what) {
        System.out.println(what + ": " + asked + " answers, " + wrong + " are not as due");
        if (wrong != 0) {
            System.exit(1);
        }
    }
}

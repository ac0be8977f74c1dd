import java.util.NoSuchElementException;
import java.util.Random;

/** Any arguments in any state: a call throws what the document names and nothing else. */
public final class WildTest {
    private static final int RUNS = 600;
    private static final int CALLS = 512;
    private static final int[] EDGES = {Integer.MIN_VALUE, Integer.MIN_VALUE + 1, -1000, -2, -1, 0, 1, 2, 3, 4, 5, 7, 8, 9, 10,
        11, 12, 13, 14, 15, 100, 119, 120, 240, 300, 399, 400, 401, 480, 600, 780, 900, 1000, 1001, 1200, 1440, 1560, 1798, 1799,
        1800, 1801, 100000, 1000000, Integer.MAX_VALUE - 1, Integer.MAX_VALUE};
    private static final String[] TEXTS = {
        "born 0; serve 240 480 1000000; wed 0 300; part 420 1000 shared 1000; retire 780;",
        "born 1799;retire 1799;wed 0 1799;", "serve 0 1 5;retire 1;wed 1799 1799;claim 0 5;", "lives 1 0;", "lives 119 100000;interest 0;",
        "wed 0 0;part 1 1000 apart 1000;wed 1 1;part 2 1000 shared 1000;wed 2 2;part 1799 1 apart 0;wed 1799 1799;",
        "serve 0 1799 1000000;per 400;retire 1799;cola 30;", "dies 1;lost 0 1700;", "born 0;", "wed", "wed 0 99999999;", "serve 1 1 1;",
        "retire 5;per 400;normal 0;cola 30;", "serve 5 400 1000000;per 400;normal 0;cola 30;retire 406;interest 0;"};

    private final Random chance;
    private final PartedPension x = new PartedPension();
    private String call = "";

    private WildTest(long seed) {
        chance = new Random(seed);
    }

    private int any() {
        return chance.nextInt(4) == 0 ? chance.nextInt() : EDGES[chance.nextInt(EDGES.length)];
    }

    private int small() {
        return chance.nextInt(3) == 0 ? any() : chance.nextInt(5);
    }

    private void one() {
        int which = chance.nextInt(28);
        int a = small();
        int b = any();
        int c = any();
        call = which + ": " + a + " " + b + " " + c;
        switch (which) {
            case 0: x.feed(chance.nextInt(), b, c, a, 0); break;
            case 1: x.end(any()); break;
            case 2: x.tell(); break;
            case 3: x.fault(); break;
            case 4: case 5: x.set(chance.nextInt(16), a, b); break;
            case 6: x.undo(); break;
            case 7: x.count(a); break;
            case 8: askSpan(a, small()); break;
            case 9: askSpouse(a, small()); break;
            case 10: x.service(b, c); break;
            case 11: x.benefit(a); break;
            case 12: x.whole(b); break;
            case 13: x.share(a, chance.nextBoolean()); break;
            default: oneMore(which, a, b, c); break;
        }
    }

    private void oneMore(int which, int a, int b, int c) {
        switch (which) {
            case 14: x.paid(b, a); break;
            case 15: x.sum(a, b, c); break;
            case 16: x.richest(b); break;
            case 17: x.happens(b); break;
            case 18: x.lives(b); break;
            case 19: x.discount(b); break;
            case 20: x.annuity(a, b, c); break;
            case 21: x.own(a); break;
            case 22: x.worth(a, b); break;
            case 23: x.claimBest(a); break;
            case 24: x.half(a); break;
            case 25: x.crosses(a); break;
            default:
                x.end(0);
                Feeder.tell(x, TEXTS[chance.nextInt(TEXTS.length)]);
                break;
        }
    }

    private void askSpan(int k, int what) {
        try {
            x.span(k, what);
        } catch (NoSuchElementException e) {
            call = "span";
        }
    }

    private void askSpouse(int k, int what) {
        try {
            x.spouse(k, what);
        } catch (NoSuchElementException e) {
            call = "spouse";
        }
    }

    public static void main(String[] args) {
        int wrong = 0;
        for (int seed = 0; seed < RUNS && wrong < 5; seed++) {
            WildTest run = new WildTest(seed);
            try {
                for (int i = 0; i < CALLS; i++) {
                    run.one();
                }
            } catch (RuntimeException e) {
                wrong++;
                System.out.println("seed " + seed + ", call " + run.call + " threw " + e);
            }
        }
        System.out.println(RUNS * CALLS + " wild calls, " + wrong + " runs threw what is not due");
        if (wrong != 0) {
            System.exit(1);
        }
    }
}

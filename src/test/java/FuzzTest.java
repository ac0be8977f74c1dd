import java.util.NoSuchElementException;
import java.util.Random;

/** Runs of chance calls, with the seed fixed, on the class and on the Oracle: every answer must be the same. */
public final class FuzzTest {
    private static final String[] VERBS = {"born", "serve", "wed", "part", "lives", "claim", "lost", "dies", "retire",
        "per", "normal", "early", "cola", "interest"};
    private static final int RUNS = 1200;
    private static int wrong = 0;
    private static long calls = 0;

    private final Random chance;
    private final PartedPension x = new PartedPension();
    private final Oracle o = new Oracle();
    private final StringBuilder log = new StringBuilder();
    private boolean failed = false;

    private FuzzTest(long seed) {
        chance = new Random(seed);
        log.append("seed ").append(seed).append('\n');
    }

    private void same(String call, long got, long want) {
        calls++;
        log.append(call).append(" = ").append(got).append('\n');
        if (got != want && !failed) {
            failed = true;
            wrong++;
            System.out.println(log + "due is " + want);
        }
    }

    private int pick(int... numbers) {
        return numbers[chance.nextInt(numbers.length)];
    }

    private int between(int low, int high) {
        return low + chance.nextInt(high - low + 1);
    }

    private int anyMonth() {
        switch (chance.nextInt(12)) {
            case 0: return pick(-1, 0, 1799, 1800, 1798, 1, -2, Integer.MAX_VALUE, Integer.MIN_VALUE);
            case 1: return nearTold();
            case 2: return nearTold();
            case 3: return nearTold();
            default: return between(0, 1799);
        }
    }

    private int nearTold() {
        int code = o.happens(chance.nextInt(12));
        return code < 0 ? between(0, 1799) : code / 100 + between(-1, 1);
    }

    private int anyWho() {
        return chance.nextInt(10) == 0 ? pick(-1, 4, 5, 9, 11, 12, 100, Integer.MIN_VALUE) : pick(10, anySpouse());
    }

    private int anySpouse() {
        int there = o.count(1);
        return there == 0 || chance.nextInt(12) == 0 ? pick(-1, 0, 1, 2, 3, 4, 10, Integer.MAX_VALUE) : chance.nextInt(there);
    }

    private String statement() {
        String verb = VERBS[chance.nextInt(VERBS.length)];
        if (verb.equals("born") && chance.nextInt(12) != 0) {
            verb = "serve";
        }
        switch (verb) {
            case "born": return "born " + between(0, 400);
            case "serve": {
                int from = between(200, 800);
                return "serve " + from + " " + (from + between(0, 90)) + " " + pick(0, 1, 999, 5000, 31234, 1000000, 777777);
            }
            case "wed": return "wed " + between(0, 400) + " " + between(250, 900);
            case "part": return "part " + between(350, 1000) + " " + pick(0, 1000, 500, between(0, 1000)) + " "
                + (chance.nextBoolean() ? "shared" : "apart") + " " + pick(0, 1000, 600, between(0, 1000));
            case "lives": return "lives " + between(1, 119) + " " + pick(between(0, 100000), between(50000, 99999), 100000, 0);
            case "claim": return "claim " + between(0, 3) + " " + anyMonthOf(700, 1799);
            case "lost": return "lost " + between(0, 3) + " " + anyMonthOf(600, 1799);
            case "dies": return "dies " + anyMonthOf(600, 1799);
            case "retire": return "retire " + anyMonthOf(700, 1200);
            case "per": return "per " + between(0, 410);
            case "normal": return "normal " + between(0, 1210);
            case "early": return "early " + between(0, 11);
            case "cola": return "cola " + between(0, 31);
            default: return "interest " + between(0, 205);
        }
    }

    private int anyMonthOf(int low, int high) {
        return chance.nextInt(15) == 0 ? between(0, 1810) : between(low, high);
    }

    /** A life told in an order that can be, so that worths have something to tell of. */
    private String life() {
        StringBuilder text = new StringBuilder();
        int born = between(0, 200);
        text.append("born ").append(born).append(';');
        int month = born + between(150, 260);
        int last = month;
        for (int i = between(1, 4); i > 0; i--) {
            int to = month + between(1, 140);
            text.append("serve ").append(month).append(' ').append(to).append(' ').append(between(0, 9999)).append(";\n");
            last = to;
            month = to + pick(0, 0, between(0, 40));
        }
        int wed = born + pick(between(120, 180), between(200, 350));
        for (int i = between(0, 4); i > 0; i--) {
            int parted = wed + pick(between(1, 200), between(300, 600));
            text.append("wed ").append(Math.max(0, born + between(-60, 120))).append(' ').append(wed).append("; ");
            if (i == 1 && chance.nextInt(4) == 0) {
                break;
            }
            text.append("part ").append(parted).append(' ').append(pick(500, 1000, between(0, 1000))).append(' ')
                .append(chance.nextBoolean() ? "shared " : "apart ").append(between(0, 1000)).append(';');
            wed = parted + pick(0, between(0, 100));
        }
        if (chance.nextInt(8) != 0) {
            text.append("retire ").append(Math.min(1799, last + between(0, 500))).append(';');
        }
        String told = text.toString();
        return told.length() <= 400 ? told : "born 1;";
    }

    /** A table that falls: by chance statements alone it would mostly rise. */
    private String table() {
        StringBuilder text = new StringBuilder();
        int year = between(1, 60);
        int many = between(80000, 100000);
        for (int i = between(1, 6); i > 0 && year <= 119; i--) {
            text.append("lives ").append(year).append(' ').append(many).append(";");
            year += between(1, 25);
            many = pick(many, many - between(0, many));
        }
        return text.toString();
    }

    private String text() {
        if (chance.nextInt(10) == 0) {
            return life();
        }
        if (chance.nextInt(10) == 0) {
            return table();
        }
        StringBuilder text = new StringBuilder();
        for (int i = pick(0, 1, 1, 2, 3, 5, 9); i > 0; i--) {
            text.append(statement()).append(pick(' ', '\n', ';') == ';' ? ";" : " ; ");
        }
        for (int i = chance.nextInt(8) == 0 ? between(1, 3) : 0; i > 0 && text.length() > 0; i--) {
            int at = chance.nextInt(text.length());
            switch (chance.nextInt(3)) {
                case 0: text.deleteCharAt(at); break;
                case 1: text.insert(at, (char) pick(' ', ';', '0', '9', 'a', 'z', 'A', 9, 13, 0, 255, '{', '`', '/', ':')); break;
                default: text.setCharAt(at, (char) pick(' ', ';', '0', '9', 'a', 'z', '\n', '-', 200)); break;
            }
        }
        return text.length() <= 400 ? text.toString() : text.substring(0, 400);
    }

    private void feedAndTell(String text) {
        log.append("text <").append(text).append(">\n");
        if (chance.nextInt(20) != 0) {
            same("end 0", x.end(0) ? 1 : 0, o.end(0) ? 1 : 0);
        }
        for (int i = 0; 20 * i < text.length(); i++) {
            int[] n = Feeder.numbers(text, i);
            same("feed", x.feed(n[0], n[1], n[2], n[3], n[4]), o.feed(n));
        }
        int end = chance.nextInt(30) == 0 ? between(-1, 401) : text.length();
        same("end " + end, x.end(end) ? 1 : 0, o.end(end) ? 1 : 0);
        same("tell", x.tell(), o.tell());
        same("fault", x.fault(), o.fault);
    }

    private void change() {
        int what = pick(0, 1, 2, 3, 4, 5, 6, 7, 9, 10, 11, 12, 13, 14, 15, -1);
        int k = anySpouse();
        int v;
        switch (chance.nextInt(4)) {
            case 0: v = pick(-2, -1, 0, 1, 2, 10, 30, 200, 400, 1000, 1001, 1200, 1799, 1800); break;
            case 1: v = between(0, 30); break;
            case 2: v = between(0, 1000); break;
            default: v = anyMonth(); break;
        }
        same("set " + what + " " + k + " " + v, x.set(what, k, v) ? 1 : 0, o.set(what, k, v) ? 1 : 0);
    }

    private void askTold() {
        int what = between(-1, 15);
        same("count " + what, x.count(what), o.count(what));
        int k = between(-1, 8);
        int part = between(-1, 3);
        same("span " + k + " " + part, spanOf(k, part), orThrown(o.span(k, part)));
        k = between(-1, 4);
        part = between(-1, 10);
        same("spouse " + k + " " + part, spouseOf(k, part), orThrown(o.spouse(k, part)));
    }

    private static long orThrown(Integer answer) {
        return answer == null ? Long.MIN_VALUE : answer;
    }

    private long spanOf(int k, int what) {
        try {
            return x.span(k, what);
        } catch (NoSuchElementException e) {
            return Long.MIN_VALUE;
        }
    }

    private long spouseOf(int k, int what) {
        try {
            return x.spouse(k, what);
        } catch (NoSuchElementException e) {
            return Long.MIN_VALUE;
        }
    }

    private void askMonths() {
        int first = anyMonth();
        int second = anyMonth();
        int a = pick(first, Math.min(first, second));
        int b = a == first ? second : first;
        int who = pick(anyWho(), 11);
        int k = anySpouse();
        switch (chance.nextInt(8)) {
            case 0: same("service " + a + " " + b, x.service(a, b), o.service(a, b)); break;
            case 1: int what = between(-1, 4); same("benefit " + what, x.benefit(what), o.benefit(what)); break;
            case 2: same("whole " + a, x.whole(a), o.whole(a)); break;
            case 3:
                same("share " + k + " false", x.share(k, false), o.share(k, false));
                same("share " + k + " true", x.share(k, true), o.share(k, true));
                break;
            case 4: same("paid " + a + " " + who, x.paid(a, who), o.paid(a, who)); break;
            case 5: same("sum " + who + " " + a + " " + b, x.sum(who, a, b), o.sum(who, a, b)); break;
            case 6: same("richest " + a, x.richest(a), o.richest(a)); break;
            default: int i = pick(between(-1, 35), between(0, 9)); same("happens " + i, x.happens(i), o.happens(i)); break;
        }
    }

    private void askWorths() {
        int k = anySpouse();
        int who = anyWho();
        int t = anyMonth();
        int s = pick(anyMonth(), t + between(0, 300));
        switch (chance.nextInt(20)) {
            case 0: case 1: case 2: case 3: int age = between(-1, 1500); same("lives " + age, x.lives(age), o.lives(age)); break;
            case 4: case 5: same("discount " + t, x.discount(t), o.discount(t)); break;
            case 6: case 7: case 8: same("annuity " + who + " " + t + " " + s, x.annuity(who, t, s), o.annuity(who, t, s)); break;
            case 9: case 10: case 11: same("own " + k, x.own(k), o.own(k)); break;
            case 12: case 13: case 14: case 15: same("worth " + who + " " + t, x.worth(who, t), o.worth(who, t)); break;
            case 16: case 17: case 18: same("crosses " + k, x.crosses(k), o.crosses(k)); break;
            default: askDear(k); break;
        }
    }

    /** The Oracle takes its time over these two. */
    private void askDear(int k) {
        if (chance.nextInt(4) != 0) {
            return;
        }
        if (chance.nextBoolean()) {
            same("claimBest " + k, x.claimBest(k), o.claimBest(k));
        } else {
            same("half " + k, x.half(k), o.half(k));
        }
    }

    private void run() {
        feedAndTell(life());
        for (int round = 0; round < 90; round++) {
            switch (chance.nextInt(16)) {
                case 0: feedAndTell(text()); break;
                case 1: change(); change(); break;
                case 2: if (chance.nextInt(3) == 0) { same("undo", x.undo(), o.undo()); } break;
                case 3: askTold(); break;
                case 4: case 5: case 6: case 7: case 8: askMonths(); break;
                default: askWorths(); break;
            }
        }
    }

    public static void main(String[] args) {
        int runs = args.length > 0 ? Integer.parseInt(args[0]) : RUNS;
        long first = args.length > 1 ? Long.parseLong(args[1]) : 1;
        for (int i = 0; i < runs && wrong < 3; i++) {
            new FuzzTest(first + i).run();
        }
        System.out.println(calls + " calls beside the oracle, " + wrong + " runs went apart");
        if (wrong != 0) {
            System.exit(1);
        }
    }
}

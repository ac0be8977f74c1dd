import java.util.ArrayList;
import java.util.Collections;
import java.util.List;
import java.util.Map;
import java.util.TreeMap;
import java.util.regex.Matcher;
import java.util.regex.Pattern;

/**
 * The document once more, as slowly and plainly as it is written: a month at a time, no shortcuts, and
 * every product and sum by Math's Exact functions, so that a number too large is seen. A change always
 * puts a new State in place of now, so rows can be kept for as long as now is the same.
 */
final class Oracle {
    static final int NONE = -1;
    static final long NO_NUMBER = -1000000000000000L;
    static final long ONE = 1000000000L;
    static final int[] TERM_MOST = {400, 1200, 10, 30, 200};

    static final class Wife {
        int born;
        int wed;
        int parted = NONE;
        int portion;
        int how;
        int survivor;
        int claims;
        int dies = NONE;

        Wife copy() {
            Wife w = new Wife();
            w.born = born;
            w.wed = wed;
            w.parted = parted;
            w.portion = portion;
            w.how = how;
            w.survivor = survivor;
            w.claims = claims;
            w.dies = dies;
            return w;
        }
    }

    static final class State {
        int born;
        int retires = NONE;
        int dies = NONE;
        int[] terms = {200, 780, 3, 20, 30};
        TreeMap<Integer, int[]> spans = new TreeMap<>();
        List<Wife> wives = new ArrayList<>();
        TreeMap<Integer, Integer> lives = new TreeMap<>();

        State copy() {
            State s = new State();
            s.born = born;
            s.retires = retires;
            s.dies = dies;
            s.terms = terms.clone();
            s.spans = new TreeMap<>(spans);
            for (Wife w : wives) {
                s.wives.add(w.copy());
            }
            s.lives = new TreeMap<>(lives);
            return s;
        }
    }

    State now = new State();
    final List<State> past = new ArrayList<>();
    String tape = "";
    int fault = 0;
    private State keptFor = null;
    private final int[] keptPays = new int[1800];
    private long[] keptWholes;
    private long[] keptLives;
    private long[] keptDiscounts;

    // ---- what is told

    int feed(int... numbers) {
        if (tape.length() + 20 > 400) {
            return NONE;
        }
        StringBuilder more = new StringBuilder(tape);
        for (int number : numbers) {
            for (int i = 3; i >= 0; i--) {
                more.append((char) ((number >> (8 * i)) & 0xff));
            }
        }
        tape = more.toString();
        return tape.length();
    }

    boolean end(int n) {
        if (n < 0 || n > tape.length()) {
            return false;
        }
        tape = tape.substring(0, n);
        return true;
    }

    int tell() {
        State trial = now.copy();
        String text = tape;
        tape = "";
        int[] result = readText(text, trial);
        fault = result[1];
        if (fault != 0) {
            return NONE;
        }
        if (result[0] > 0) {
            remember();
            now = trial;
        }
        return result[0];
    }

    private void remember() {
        past.add(now.copy());
        if (past.size() > 12) {
            past.remove(0);
        }
    }

    int undo() {
        if (past.isEmpty()) {
            return NONE;
        }
        now = past.remove(past.size() - 1);
        return past.size();
    }

    private static final Pattern TOKEN = Pattern.compile("[a-z]+|[0-9]+|[^ \\n]", Pattern.DOTALL);

    /** By verb: what may stand behind it: m month, p pay, t thousandths, h how, y years, l living, s spouse, 0-4 terms. */
    private static String shape(String verb) {
        switch (verb) {
            case "born": return "m";
            case "serve": return "mmp";
            case "wed": return "mm";
            case "part": return "mtht";
            case "lives": return "yl";
            case "claim": return "sm";
            case "lost": return "sm";
            case "dies": return "m";
            case "retire": return "m";
            case "per": return "0";
            case "normal": return "1";
            case "early": return "2";
            case "cola": return "3";
            case "interest": return "4";
            default: return null;
        }
    }

    private static int[] readText(String text, State s) {
        List<String> tokens = new ArrayList<>();
        List<Integer> places = new ArrayList<>();
        Matcher m = TOKEN.matcher(text);
        while (m.find()) {
            tokens.add(m.group());
            places.add(m.start());
        }
        tokens.add("");
        places.add(text.length());
        int at = 0;
        int done = 0;
        while (!tokens.get(at).isEmpty()) {
            String verb = tokens.get(at);
            int verbPlace = places.get(at);
            String shape = shape(verb);
            if (shape == null) {
                return new int[] {0, 8 * verbPlace + 1};
            }
            if ((verb.equals("serve") && s.spans.size() == 8) || (verb.equals("wed") && s.wives.size() == 4)) {
                return new int[] {0, 8 * verbPlace + 3};
            }
            int[] v = new int[4];
            for (int i = 0; i < shape.length(); i++) {
                at++;
                int kind = readPart(shape.charAt(i), tokens.get(at), s, v, i);
                if (kind != 0) {
                    return new int[] {0, 8 * places.get(at) + kind};
                }
            }
            at++;
            if (!tokens.get(at).equals(";")) {
                return new int[] {0, 8 * places.get(at) + 1};
            }
            if (!perform(verb, v, s)) {
                return new int[] {0, 8 * verbPlace + 4};
            }
            at++;
            done++;
        }
        return new int[] {done, 0};
    }

    private static int readPart(char part, String token, State s, int[] v, int i) {
        if (part == 'h') {
            v[i] = token.equals("apart") ? 1 : 0;
            return token.equals("apart") || token.equals("shared") ? 0 : 1;
        }
        if (!token.matches("[0-9]{1,7}")) {
            return 1;
        }
        v[i] = Integer.parseInt(token);
        int least = part == 'y' ? 1 : 0;
        int most;
        switch (part) {
            case 'm': most = 1799; break;
            case 'p': most = 1000000; break;
            case 't': most = 1000; break;
            case 'y': most = 119; break;
            case 'l': most = 100000; break;
            case 's': most = s.wives.size() - 1; break;
            default: most = TERM_MOST[part - '0'];
        }
        return v[i] < least || v[i] > most ? 2 : 0;
    }

    private static boolean perform(String verb, int[] v, State s) {
        switch (verb) {
            case "born": {
                State fresh = new State();
                s.born = v[0];
                s.retires = NONE;
                s.dies = NONE;
                s.terms = fresh.terms;
                s.spans = fresh.spans;
                s.wives = fresh.wives;
                s.lives = fresh.lives;
                return true;
            }
            case "serve": return serve(v[0], v[1], v[2], s);
            case "wed": return wed(v[0], v[1], s);
            case "part": return part(v, s);
            case "lives": return tellLives(v[0], v[1], s);
            case "claim": s.wives.get(v[0]).claims = v[1]; return true;
            case "lost":
                if (v[1] <= s.wives.get(v[0]).born) {
                    return false;
                }
                s.wives.get(v[0]).dies = v[1];
                return true;
            case "dies":
                if (v[0] <= s.born) {
                    return false;
                }
                s.dies = v[0];
                return true;
            case "retire":
                if (!mayRetire(v[0], s)) {
                    return false;
                }
                s.retires = v[0];
                return true;
            case "per": s.terms[0] = v[0]; return true;
            case "normal": s.terms[1] = v[0]; return true;
            case "early": s.terms[2] = v[0]; return true;
            case "cola": s.terms[3] = v[0]; return true;
            default: s.terms[4] = v[0]; return true;
        }
    }

    private static boolean serve(int from, int to, int pay, State s) {
        if (from < s.born || to <= from || (s.retires != NONE && to > s.retires)) {
            return false;
        }
        for (int m = from; m < to; m++) {
            if (payIn(m, s) >= 0) {
                return false;
            }
        }
        s.spans.put(from, new int[] {from, to, pay});
        return true;
    }

    private static boolean wed(int born, int month, State s) {
        if (month < born || month < s.born) {
            return false;
        }
        if (!s.wives.isEmpty()) {
            Wife last = s.wives.get(s.wives.size() - 1);
            if (last.parted == NONE || month < last.parted) {
                return false;
            }
        }
        Wife w = new Wife();
        w.born = born;
        w.wed = month;
        s.wives.add(w);
        return true;
    }

    private static boolean part(int[] v, State s) {
        if (s.wives.isEmpty()) {
            return false;
        }
        Wife last = s.wives.get(s.wives.size() - 1);
        if (last.parted != NONE || v[0] <= last.wed) {
            return false;
        }
        last.parted = v[0];
        last.portion = v[1];
        last.how = v[2];
        last.survivor = v[3];
        return true;
    }

    private static boolean tellLives(int year, int many, State s) {
        TreeMap<Integer, Integer> after = new TreeMap<>(s.lives);
        after.put(year, many);
        if (after.size() > 10) {
            return false;
        }
        int before = 100000;
        for (int count : after.values()) {
            if (count > before) {
                return false;
            }
            before = count;
        }
        s.lives = after;
        return true;
    }

    private static boolean mayRetire(int month, State s) {
        if (month < s.born) {
            return false;
        }
        for (int[] span : s.spans.values()) {
            if (span[1] > month) {
                return false;
            }
        }
        return true;
    }

    boolean set(int what, int k, int v) {
        State s = now.copy();
        boolean changed;
        switch (what) {
            case 0:
                changed = v != s.retires && (v == NONE || (month(v) && mayRetire(v, s)));
                s.retires = v;
                break;
            case 6:
                changed = v != s.dies && (v == NONE || (month(v) && v > s.born));
                s.dies = v;
                break;
            case 10: case 11: case 12: case 13: case 14:
                changed = v != s.terms[what - 10] && v >= 0 && v <= TERM_MOST[what - 10];
                s.terms[what - 10] = v;
                break;
            default:
                changed = k >= 0 && k < s.wives.size() && setWife(s.wives.get(k), what, v);
        }
        if (changed) {
            remember();
            now = s;
        }
        return changed;
    }

    private static boolean setWife(Wife w, int what, int v) {
        Wife before = w.copy();
        boolean parted = w.parted != NONE;
        switch (what) {
            case 1: w.portion = v; return parted && v >= 0 && v <= 1000 && v != before.portion;
            case 2: w.how = v; return parted && v >= 0 && v <= 1 && v != before.how;
            case 3: w.survivor = v; return parted && v >= 0 && v <= 1000 && v != before.survivor;
            case 4: w.claims = v; return month(v) && v != before.claims;
            case 5: w.dies = v; return v != before.dies && (v == NONE || (month(v) && v > w.born));
            default: return false;
        }
    }

    int count(int what) {
        int[] first = {now.spans.size(), now.wives.size(), now.lives.size(), now.born, now.retires, now.dies,
            tape.length(), past.size(), NONE, NONE};
        if (what >= 0 && what < 10) {
            return first[what];
        }
        return what >= 10 && what <= 14 ? now.terms[what - 10] : NONE;
    }

    /** null: it throws. */
    Integer span(int k, int what) {
        if (k < 0 || k >= now.spans.size() || what < 0 || what > 2) {
            return null;
        }
        return new ArrayList<>(now.spans.values()).get(k)[what];
    }

    Integer spouse(int k, int what) {
        if (!spouse(k) || what < 0 || what > 9) {
            return null;
        }
        Wife w = now.wives.get(k);
        int[] all = {w.born, w.wed, w.parted, w.portion, w.how, w.survivor, w.claims, w.dies, wMonths(w),
            now.retires == NONE ? NONE : begin(w)};
        return all[what];
    }

    // ---- months

    static boolean month(int m) {
        return m >= 0 && m <= 1799;
    }

    boolean spouse(int k) {
        return k >= 0 && k < now.wives.size();
    }

    private static int payIn(int m, State s) {
        for (int[] span : s.spans.values()) {
            if (m >= span[0] && m < span[1]) {
                return span[2];
            }
        }
        return -1;
    }

    int service(int a, int b) {
        return month(a) && month(b) ? served(a, b) : NONE;
    }

    private int served(int a, int b) {
        refresh();
        int n = 0;
        for (int m = a; m < b; m++) {
            n += keptPays[m] >= 0 ? 1 : 0;
        }
        return n;
    }

    int benefit(int what) {
        switch (what) {
            case 0: return served(0, 1800);
            case 1: return finalPay();
            case 2: return (int) (Math.multiplyExact(Math.multiplyExact((long) finalPay(), now.terms[0]), served(0, 1800)) / 120000);
            case 3: return first();
            default: return NONE;
        }
    }

    private int finalPay() {
        List<Integer> pays = new ArrayList<>();
        for (int m = 1799; m >= 0 && pays.size() < 36; m--) {
            if (payIn(m, now) >= 0) {
                pays.add(payIn(m, now));
            }
        }
        int all = 0;
        for (int pay : pays) {
            all += pay;
        }
        return pays.isEmpty() ? 0 : all / pays.size();
    }

    private int first() {
        if (now.retires == NONE) {
            return 0;
        }
        int thousandths = 1000;
        for (int age = now.retires - now.born; age < now.terms[1]; age++) {
            thousandths -= now.terms[2];
        }
        return (int) ((long) benefit(2) * (thousandths < 0 ? 0 : thousandths) / 1000);
    }

    int whole(int month) {
        return month(month) ? (int) wholeIn(month) : NONE;
    }

    private long wholeIn(int month) {
        if (now.retires == NONE || month < now.retires) {
            return 0;
        }
        long whole = first();
        for (int m = now.retires + 12; m <= month; m += 12) {
            whole = whole * (1000 + now.terms[3]) / 1000;
        }
        return whole;
    }

    private long[] wholes() {
        refresh();
        return keptWholes;
    }

    private long[] livesRow() {
        refresh();
        return keptLives;
    }

    private long[] discounts() {
        refresh();
        return keptDiscounts;
    }

    private void refresh() {
        if (keptFor != now) {
            keptFor = now;
            for (int m = 0; m < 1800; m++) {
                keptPays[m] = payIn(m, now);
            }
            keptWholes = wholeRow();
            keptLives = ageRow();
            keptDiscounts = discountRow();
        }
    }

    private long[] wholeRow() {
        long[] row = new long[1800];
        for (int m = 0; m < 1800; m++) {
            row[m] = now.retires != NONE && m > now.retires && (m - now.retires) % 12 != 0 ? row[m - 1] : wholeIn(m);
        }
        return row;
    }

    private int wMonths(Wife w) {
        return w.parted == NONE ? 0 : served(w.wed, w.parted);
    }

    private long shareOf(long whole, int portion, int w, int n) {
        return n == 0 ? 0 : Math.multiplyExact(Math.multiplyExact(whole, portion), w) / (1000L * n);
    }

    private int begin(Wife w) {
        return w.claims > now.retires ? w.claims : now.retires;
    }

    int share(int k, boolean under) {
        if (!spouse(k)) {
            return NONE;
        }
        Wife w = now.wives.get(k);
        java.math.BigInteger up = java.math.BigInteger.valueOf((long) w.portion * wMonths(w));
        if (up.signum() == 0) {
            return under ? 1 : 0;
        }
        java.math.BigInteger low = java.math.BigInteger.valueOf(1000L * served(0, 1800));
        return (under ? low : up).divide(up.gcd(low)).intValueExact();
    }

    private boolean lives(int dies, int month) {
        return dies == NONE || month < dies;
    }

    /** Of each SPOUSE, then THE MEMBER, then THE REST: what each is paid in all MONTHS. */
    private long[][] payments() {
        int n = now.wives.size();
        long[] wholes = wholes();
        long[][] paid = new long[n + 2][1800];
        int served = served(0, 1800);
        for (int k = 0; k < n; k++) {
            paid[k] = paidAs(now.wives.get(k), now.wives.get(k).how, wholes);
        }
        for (int m = 0; m < 1800; m++) {
            long member = lives(now.dies, m) ? wholes[m] : 0;
            long spouses = 0;
            for (int k = 0; k < n; k++) {
                Wife w = now.wives.get(k);
                spouses += paid[k][m];
                if (lives(now.dies, m) && w.parted != NONE && m >= w.parted) {
                    member -= w.how == 1 ? shareOf(wholes[m], w.portion, wMonths(w), served) : paid[k][m];
                }
            }
            paid[n][m] = member;
            paid[n + 1][m] = wholes[m] - member - spouses;
        }
        return paid;
    }

    private long[] paidAs(Wife w, int how, long[] wholes) {
        long[] row = new long[1800];
        if (w.parted == NONE || now.retires == NONE) {
            return row;
        }
        long own = how == 1 ? ownOf(w, w.portion, w.claims) : 0;
        int months = wMonths(w);
        int served = served(0, 1800);
        for (int m = Math.max(w.parted, begin(w)); m < 1800 && lives(w.dies, m); m++) {
            long share = shareOf(wholes[m], w.portion, months, served);
            row[m] = how == 1 ? own : lives(now.dies, m) ? share : share * w.survivor / 1000;
        }
        return row;
    }

    private int rowOf(int who) {
        return spouse(who) ? who : who == 10 ? now.wives.size() : who == 11 ? now.wives.size() + 1 : NONE;
    }

    long paid(int month, int who) {
        return month(month) && rowOf(who) != NONE ? payments()[rowOf(who)][month] : NO_NUMBER;
    }

    long sum(int who, int a, int b) {
        if (!month(a) || !month(b) || a > b || rowOf(who) == NONE) {
            return NO_NUMBER;
        }
        return sumOf(payments()[rowOf(who)], a, b);
    }

    private static long sumOf(long[] row, int a, int b) {
        long all = 0;
        for (int m = a; m < b; m++) {
            all = Math.addExact(all, row[m]);
        }
        return all;
    }

    int richest(int month) {
        if (!month(month)) {
            return NONE;
        }
        long[][] paid = payments();
        int who = 10;
        long most = sumOf(paid[now.wives.size()], 0, month);
        for (int k = 0; k < now.wives.size(); k++) {
            if (sumOf(paid[k], 0, month) > most) {
                who = k;
                most = sumOf(paid[k], 0, month);
            }
        }
        return who;
    }

    int happens(int i) {
        List<int[]> all = new ArrayList<>();
        int number = 0;
        for (int[] span : now.spans.values()) {
            all.add(new int[] {span[0], 0, number});
            all.add(new int[] {span[1], 1, number++});
        }
        for (int k = 0; k < now.wives.size(); k++) {
            Wife w = now.wives.get(k);
            all.add(new int[] {w.wed, 2, k});
            if (w.parted != NONE) {
                all.add(new int[] {w.parted, 3, k});
            }
            if (w.parted != NONE && now.retires != NONE) {
                all.add(new int[] {begin(w), 5, k});
            }
            if (w.dies != NONE) {
                all.add(new int[] {w.dies, 6, k});
            }
        }
        if (now.retires != NONE) {
            all.add(new int[] {now.retires, 4, 0});
        }
        if (now.dies != NONE) {
            all.add(new int[] {now.dies, 7, 0});
        }
        Collections.sort(all, (x, y) -> x[0] != y[0] ? x[0] - y[0] : x[1] != y[1] ? x[1] - y[1] : x[2] - y[2]);
        return i < 0 || i >= all.size() ? NONE : 100 * all.get(i)[0] + 10 * all.get(i)[1] + all.get(i)[2];
    }

    // ---- worths

    int lives(int age) {
        if (age < 0) {
            return NONE;
        }
        TreeMap<Integer, Integer> points = new TreeMap<>();
        points.put(0, 100000);
        points.put(1440, 0);
        for (Map.Entry<Integer, Integer> told : now.lives.entrySet()) {
            points.put(12 * told.getKey(), told.getValue());
        }
        if (age >= 1440) {
            return 0;
        }
        Map.Entry<Integer, Integer> low = points.floorEntry(age);
        Map.Entry<Integer, Integer> high = points.higherEntry(age);
        int rise = high.getValue() - low.getValue();
        return low.getValue() + Math.floorDiv(rise * (age - low.getKey()), high.getKey() - low.getKey());
    }

    private long[] ageRow() {
        long[] row = new long[1800];
        for (int age = 0; age < 1800; age++) {
            row[age] = lives(age);
        }
        return row;
    }

    private long[] discountRow() {
        long[] v = new long[1800];
        v[0] = ONE;
        for (int k = 0; k < 1799; k++) {
            v[k + 1] = v[k] * 12000 / (12000 + now.terms[4]);
        }
        return v;
    }

    int discount(int k) {
        return month(k) ? (int) discounts()[k] : NONE;
    }

    private static long odds(long[] livesRow, int born, int t, int m) {
        long then = livesRow[t - born];
        return then == 0 ? 0 : ONE * livesRow[m - born] / then;
    }

    private long annuityOf(int born, int t, int s) {
        long[] row = livesRow();
        long[] v = discounts();
        long all = 0;
        for (int m = s; m <= 1799; m++) {
            all = Math.addExact(all, Math.multiplyExact(v[m - t], odds(row, born, t, m)) / ONE);
        }
        return all;
    }

    long annuity(int who, int t, int s) {
        if (!month(t) || !month(s) || s < t || (who != 10 && !spouse(who))) {
            return NONE;
        }
        int born = who == 10 ? now.born : now.wives.get(who).born;
        return born > t ? NONE : annuityOf(born, t, s);
    }

    private long ownOf(Wife w, int portion, int claims) {
        int r = now.retires;
        if (w.born > r || now.born > r) {
            return 0;
        }
        long share = shareOf(wholeIn(r), portion, wMonths(w), served(0, 1800));
        long fund = Math.multiplyExact(share, annuityOf(now.born, r, r)) / ONE;
        long annuity = annuityOf(w.born, r, Math.max(r, claims));
        return annuity == 0 ? 0 : Math.min(ONE, Math.multiplyExact(fund, ONE) / annuity);
    }

    long own(int k) {
        return !spouse(k) || now.retires == NONE ? NONE : ownOf(now.wives.get(k), now.wives.get(k).portion, now.wives.get(k).claims);
    }

    private long worthOf(Wife w, int portion, int claims, int t) {
        long own = w.how == 1 ? ownOf(w, portion, claims) : 0;
        long[] wholes = wholes();
        long[] row = livesRow();
        long[] v = discounts();
        int months = wMonths(w);
        int served = served(0, 1800);
        long all = 0;
        for (int m = Math.max(t, Math.max(now.retires, claims)); m <= 1799; m++) {
            long b = odds(row, w.born, t, m);
            long a = odds(row, now.born, t, m);
            long j = Math.multiplyExact(a, b) / ONE;
            long share = shareOf(wholes[m], portion, months, served);
            long x = w.how == 1
                ? Math.multiplyExact(own, b) / ONE
                : Math.addExact(Math.multiplyExact(share, j), Math.multiplyExact(share * w.survivor / 1000, b - j)) / ONE;
            all = Math.addExact(all, Math.multiplyExact(v[m - t], x) / ONE);
        }
        return all;
    }

    private long worthOfAll(int t) {
        long[] wholes = wholes();
        long[] row = livesRow();
        long[] v = discounts();
        long all = 0;
        for (int m = Math.max(t, now.retires); m <= 1799; m++) {
            long x = Math.multiplyExact(wholes[m], odds(row, now.born, t, m)) / ONE;
            all = Math.addExact(all, Math.multiplyExact(v[m - t], x) / ONE);
        }
        return all;
    }

    long worth(int who, int t) {
        if (!month(t) || now.retires == NONE || now.born > t || (who != 10 && !spouse(who))) {
            return NONE;
        }
        if (who == 10) {
            return worthOfAll(t);
        }
        Wife w = now.wives.get(who);
        return w.born > t ? NONE : worthOf(w, w.portion, w.claims, t);
    }

    int claimBest(int k) {
        if (!spouse(k) || now.retires == NONE || worth(k, now.retires) == NONE) {
            return NONE;
        }
        Wife w = now.wives.get(k);
        int best = NONE;
        long most = -1;
        for (int claim = now.retires; claim <= 1799 && claim <= now.retires + 240; claim++) {
            long worth = worthOf(w, w.portion, claim, now.retires);
            if (worth > most) {
                most = worth;
                best = claim;
            }
        }
        return best;
    }

    int half(int k) {
        if (!spouse(k) || now.retires == NONE || worth(k, now.retires) == NONE || now.wives.get(k).parted == NONE) {
            return NONE;
        }
        Wife w = now.wives.get(k);
        long all = worthOfAll(now.retires);
        for (int portion = 0; portion <= 1000; portion++) {
            if (2 * worthOf(w, portion, w.claims, now.retires) >= all) {
                return portion;
            }
        }
        return NONE;
    }

    int crosses(int k) {
        if (!spouse(k) || now.wives.get(k).parted == NONE) {
            return NONE;
        }
        Wife w = now.wives.get(k);
        long[] wholes = wholes();
        long[] theirs = paidAs(w, w.how, wholes);
        long[] other = paidAs(w, 1 - w.how, wholes);
        for (int m = 0; m <= 1799; m++) {
            if (sumOf(other, 0, m + 1) > sumOf(theirs, 0, m + 1)) {
                return m;
            }
        }
        return NONE;
    }
}

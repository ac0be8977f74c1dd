import java.util.NoSuchElementException;

/** A pension that is split on parting; ../shared/DOC.md says what each call answers. */
public final class PartedPension {
    public static final int NONE = -1;
    public static final long NO_NUMBER = -1000000000000000L;

    private static final int MONTHS = 1800;
    private static final long ONE = 1000000000L;
    private static final int MEMBER = 10;
    private static final int REST = 11;
    private static final int SHARED = 0;
    private static final int APART = 1;

    private static final int MOST_BYTES = 400;
    private static final int MOST_SPANS = 8;
    private static final int MOST_SPOUSES = 4;
    private static final int MOST_YEARS = 10;
    private static final int MOST_UNDONE = 12;
    private static final int FINAL_MONTHS = 36;
    private static final int CLAIM_MONTHS = 240;
    private static final int ALL_LIVE = 100000;
    private static final int LAST_AGE = 1440;

    private static final int TERMS = 5;
    private static final int PER = 0;
    private static final int NORMAL = 1;
    private static final int EARLY = 2;
    private static final int COLA = 3;
    private static final int INTEREST = 4;
    private static final int[] TERMS_AT_FIRST = {200, 780, 3, 20, 30};

    /** By these numbers set() and count() name the TERMS. */
    private static final int FIRST_TERM = 10;

    private static final int SET_RETIRES = 0;
    private static final int SET_PORTION = 1;
    private static final int SET_HOW = 2;
    private static final int SET_SURVIVOR = 3;
    private static final int SET_CLAIMS = 4;
    private static final int SET_LOST = 5;
    private static final int SET_DIES = 6;

    private static final int CANT_STAND = 1;
    private static final int CANT_BE_ITSELF = 2;
    private static final int ONE_TOO_MANY = 3;
    private static final int CANT_BE_HERE = 4;

    /** What may stand at a place of a STATEMENT; the TERMS' slots stand last, in the TERMS' order. */
    private static final int SLOT_EMPTY = 0;
    private static final int SLOT_SPOUSE = 1;
    private static final int SLOT_HOW = 2;
    private static final int SLOT_MONTH = 3;
    private static final int SLOT_PAY = 4;
    private static final int SLOT_PART = 5;
    private static final int SLOT_YEARS = 6;
    private static final int SLOT_LIVING = 7;
    private static final int SLOT_TERM = 8;
    private static final int[] SLOT_LEAST = {0, 0, 0, 0, 0, 0, 1, 0, 0, 0, 0, 0, 0};
    private static final int[] SLOT_MOST = {0, 3, 1, 1799, 1000000, 1000, 119, 100000, 400, 1200, 10, 30, 200};

    private int latestFault = 0;
    private final Plan plan = new Plan();
    private final Plan trial = new Plan();
    private final Plan[] past = new Plan[MOST_UNDONE];
    private int pastCount = 0;
    private final Reader reader = new Reader();
    private final Reckoner reckoner = new Reckoner();
    private final Calendar calendar = new Calendar();

    public PartedPension() {
        for (int i = 0; i < MOST_UNDONE; i++) {
            past[i] = new Plan();
        }
    }

    // ---- what is told

    public int feed(int a, int b, int c, int d, int e) {
        if (reader.length + 20 > MOST_BYTES) {
            return NONE;
        }
        reader.append(a);
        reader.append(b);
        reader.append(c);
        reader.append(d);
        reader.append(e);
        return reader.length;
    }

    public boolean end(int n) {
        if (n < 0 || n > reader.length) {
            return false;
        }
        reader.length = n;
        return true;
    }

    public int tell() {
        trial.copyFrom(plan);
        int statements = reader.readAll(trial);
        reader.length = 0;
        latestFault = reader.fault;
        if (latestFault != 0) {
            return NONE;
        }
        if (statements > 0) {
            keepPast();
            plan.copyFrom(trial);
        }
        return statements;
    }

    public int fault() {
        return latestFault;
    }

    public boolean set(int what, int k, int v) {
        if (!plan.canChange(what, k, v) || plan.valueOf(what, k) == v) {
            return false;
        }
        keepPast();
        plan.change(what, k, v);
        return true;
    }

    public int undo() {
        if (pastCount == 0) {
            return NONE;
        }
        pastCount--;
        plan.copyFrom(past[pastCount]);
        return pastCount;
    }

    /** The oldest plan's room is used again for the newest, so that nothing is made here. */
    private void keepPast() {
        if (pastCount == MOST_UNDONE) {
            Plan oldest = past[0];
            for (int i = 1; i < MOST_UNDONE; i++) {
                past[i - 1] = past[i];
            }
            past[MOST_UNDONE - 1] = oldest;
            pastCount--;
        }
        past[pastCount].copyFrom(plan);
        pastCount++;
    }

    public int count(int what) {
        if (isTerm(what)) {
            return plan.terms[what - FIRST_TERM];
        }
        switch (what) {
            case 0: return plan.spanCount;
            case 1: return plan.spouseCount;
            case 2: return plan.table.told;
            case 3: return plan.born;
            case 4: return plan.retires;
            case 5: return plan.dies;
            case 6: return reader.length;
            case 7: return pastCount;
            default: return NONE;
        }
    }

    public int span(int k, int what) throws NoSuchElementException {
        if (k < 0 || k >= plan.spanCount) {
            throw new NoSuchElementException("no such span");
        }
        Span asked = plan.spans[k];
        switch (what) {
            case 0: return asked.from;
            case 1: return asked.to;
            case 2: return asked.pay;
            default: throw new NoSuchElementException("a span has no such number");
        }
    }

    public int spouse(int k, int what) throws NoSuchElementException {
        if (!plan.hasSpouse(k)) {
            throw new NoSuchElementException("no such spouse");
        }
        Spouse asked = plan.spouses[k];
        switch (what) {
            case 0: return asked.born;
            case 1: return asked.wed;
            case 2: return asked.parted;
            case 3: return asked.portion;
            case 4: return asked.how;
            case 5: return asked.survivor;
            case 6: return asked.claims;
            case 7: return asked.dies;
            case 8: return asked.served;
            case 9: return plan.beginOf(asked);
            default: throw new NoSuchElementException("a spouse has no such number");
        }
    }

    // ---- months

    public int service(int a, int b) {
        return isMonth(a) && isMonth(b) ? plan.serviceWithin(a, b) : NONE;
    }

    public int benefit(int what) {
        switch (what) {
            case 0: return plan.served;
            case 1: return plan.finalPay();
            case 2: return plan.basePay();
            case 3: return plan.firstPay();
            default: return NONE;
        }
    }

    public int whole(int month) {
        if (!isMonth(month)) {
            return NONE;
        }
        reckoner.fillWholes(plan);
        return reckoner.wholes[month];
    }

    public int share(int k, boolean under) {
        if (!plan.hasSpouse(k)) {
            return NONE;
        }
        Spouse asked = plan.spouses[k];
        int upper = asked.portion * asked.served;
        if (upper == 0) {
            return under ? 1 : 0;
        }
        int lower = 1000 * plan.served;
        int common = commonDivisor(upper, lower);
        if (common == 0) {
            return NONE;
        }
        return under ? lower / common : upper / common;
    }

    public long paid(int month, int who) {
        if (!isMonth(month) || !isPaid(who)) {
            return NO_NUMBER;
        }
        reckoner.prepare(plan);
        return reckoner.paidTo(plan, month, who);
    }

    public long sum(int who, int a, int b) {
        if (!isMonth(a) || !isMonth(b) || a > b || !isPaid(who)) {
            return NO_NUMBER;
        }
        reckoner.prepare(plan);
        return reckoner.paidWithin(plan, who, a, b);
    }

    public int richest(int month) {
        if (!isMonth(month)) {
            return NONE;
        }
        reckoner.prepare(plan);
        int who = MEMBER;
        long most = reckoner.paidWithin(plan, MEMBER, 0, month);
        for (int k = 0; k < plan.spouseCount; k++) {
            long had = reckoner.paidWithin(plan, k, 0, month);
            if (had > most) {
                most = had;
                who = k;
            }
        }
        return who;
    }

    public int happens(int i) {
        calendar.fill(plan);
        return i >= 0 && i < calendar.size ? calendar.codes[i] : NONE;
    }

    // ---- worths

    public int lives(int age) {
        return age < 0 ? NONE : plan.table.livesAt(age);
    }

    public int discount(int k) {
        if (!isMonth(k)) {
            return NONE;
        }
        reckoner.fillDiscounts(plan);
        return reckoner.discounts[k];
    }

    public long annuity(int who, int t, int s) {
        if (!isMonth(t) || !isMonth(s) || s < t) {
            return NONE;
        }
        if (who != MEMBER && !plan.hasSpouse(who)) {
            return NONE;
        }
        int born = who == MEMBER ? plan.born : plan.spouses[who].born;
        return born > t ? NONE : reckoner.annuityOf(plan, born, t, s);
    }

    public long own(int k) {
        if (!plan.hasSpouse(k) || plan.retires == NONE) {
            return NONE;
        }
        return reckoner.ownOf(plan, plan.spouses[k]);
    }

    public long worth(int who, int t) {
        if (!isMonth(t) || plan.retires == NONE || plan.born > t) {
            return NONE;
        }
        if (who == MEMBER) {
            return reckoner.worthOfAll(plan, t);
        }
        if (!plan.hasSpouse(who) || plan.spouses[who].born > t) {
            return NONE;
        }
        return reckoner.worthOfSpouse(plan, plan.spouses[who], t);
    }

    public int claimBest(int k) {
        return hasWorthInRetires(k) ? reckoner.bestClaim(plan, plan.spouses[k]) : NONE;
    }

    public int half(int k) {
        if (!hasWorthInRetires(k) || plan.spouses[k].parted == NONE) {
            return NONE;
        }
        return reckoner.leastHalf(plan, plan.spouses[k]);
    }

    public int crosses(int k) {
        if (!plan.hasSpouse(k) || plan.spouses[k].parted == NONE || plan.retires == NONE) {
            return NONE;
        }
        return reckoner.firstCrossing(plan, plan.spouses[k]);
    }

    // ---- what several calls ask

    private boolean hasWorthInRetires(int k) {
        return plan.hasSpouse(k) && plan.retires != NONE
            && plan.born <= plan.retires && plan.spouses[k].born <= plan.retires;
    }

    private boolean isPaid(int who) {
        return who == MEMBER || who == REST || plan.hasSpouse(who);
    }

    private static boolean isMonth(int number) {
        return number >= 0 && number < MONTHS;
    }

    private static boolean isTerm(int what) {
        return what >= FIRST_TERM && what < FIRST_TERM + TERMS;
    }

    private static boolean isWithin(int slot, int number) {
        return slot >= 0 && slot < SLOT_MOST.length
            && number >= SLOT_LEAST[slot] && number <= SLOT_MOST[slot];
    }

    /** Twice the bits of an int are steps enough: every two halve the lesser number. */
    private static int commonDivisor(int a, int b) {
        int greater = a;
        int lesser = b;
        for (int step = 0; step < 64 && lesser != 0; step++) {
            int left = greater % lesser;
            greater = lesser;
            lesser = left;
        }
        return greater;
    }

    /** Months of service with pay. */
    private static final class Span {
        private int from;
        private int to;
        private int pay;

        private void copyFrom(Span other) {
            from = other.from;
            to = other.to;
            pay = other.pay;
        }
    }

    /** One who is, or was, married to THE MEMBER. */
    private static final class Spouse {
        private int born;
        private int wed;
        private int parted;
        private int portion;
        private int how;
        private int survivor;
        private int claims;
        private int dies;
        /** W: it follows from the spans, which only a text changes, so the plan keeps it here. */
        private int served;

        private void begin(int bornIn, int wedIn) {
            born = bornIn;
            wed = wedIn;
            parted = NONE;
            portion = 0;
            how = SHARED;
            survivor = 0;
            claims = 0;
            dies = NONE;
            served = 0;
        }

        private void copyFrom(Spouse other) {
            born = other.born;
            wed = other.wed;
            parted = other.parted;
            portion = other.portion;
            how = other.how;
            survivor = other.survivor;
            claims = other.claims;
            dies = other.dies;
            served = other.served;
        }

        private boolean isPartedBy(int month) {
            return parted != NONE && parted <= month;
        }
    }

    /** LIVES: the years that are told, in rising order; age 0 and age 1440 stand unwritten at both ends. */
    private static final class LifeTable {
        private final int[] years = new int[MOST_YEARS];
        private final int[] living = new int[MOST_YEARS];
        private int told = 0;

        private void copyFrom(LifeTable other) {
            told = other.told;
            for (int i = 0; i < told; i++) {
                years[i] = other.years[i];
                living[i] = other.living[i];
            }
        }

        /** false, and nothing is changed: LIVES would rise, or it is an 11th year. */
        private boolean tellYear(int year, int many) {
            int place = 0;
            while (place < told && years[place] < year) {
                place++;
            }
            boolean anew = place < told && years[place] == year;
            int next = anew ? place + 1 : place;
            int most = place == 0 ? ALL_LIVE : living[place - 1];
            int least = next < told ? living[next] : 0;
            if (many > most || many < least || (!anew && told >= MOST_YEARS)) {
                return false;
            }
            if (!anew) {
                makeRoom(place);
            }
            years[place] = year;
            living[place] = many;
            return true;
        }

        private void makeRoom(int place) {
            for (int i = told; i > place; i--) {
                years[i] = years[i - 1];
                living[i] = living[i - 1];
            }
            told++;
        }

        private int livesAt(int age) {
            if (age >= LAST_AGE) {
                return 0;
            }
            int next = 0;
            while (next < told && 12 * years[next] <= age) {
                next++;
            }
            int lowAge = next == 0 ? 0 : 12 * years[next - 1];
            int lowLives = next == 0 ? ALL_LIVE : living[next - 1];
            int highAge = next == told ? LAST_AGE : 12 * years[next];
            int highLives = next == told ? 0 : living[next];
            int width = highAge - lowAge;
            if (width <= 0) {
                return lowLives;
            }
            return (lowLives * (highAge - age) + highLives * (age - lowAge)) / width;
        }
    }

    /** All that is told, and what follows from it without worths. */
    private static final class Plan {
        private int born;
        private int retires;
        private int dies;
        private final int[] terms = new int[TERMS];
        private final Span[] spans = new Span[MOST_SPANS];
        private int spanCount;
        private int served;
        private final Spouse[] spouses = new Spouse[MOST_SPOUSES];
        private int spouseCount;
        private final LifeTable table = new LifeTable();

        private Plan() {
            for (int i = 0; i < MOST_SPANS; i++) {
                spans[i] = new Span();
            }
            for (int i = 0; i < MOST_SPOUSES; i++) {
                spouses[i] = new Spouse();
            }
            beginAnew(0);
        }

        private void beginAnew(int bornIn) {
            born = bornIn;
            retires = NONE;
            dies = NONE;
            for (int i = 0; i < TERMS; i++) {
                terms[i] = TERMS_AT_FIRST[i];
            }
            spanCount = 0;
            served = 0;
            spouseCount = 0;
            table.told = 0;
        }

        private void copyFrom(Plan other) {
            born = other.born;
            retires = other.retires;
            dies = other.dies;
            for (int i = 0; i < TERMS; i++) {
                terms[i] = other.terms[i];
            }
            spanCount = other.spanCount;
            served = other.served;
            for (int i = 0; i < spanCount; i++) {
                spans[i].copyFrom(other.spans[i]);
            }
            spouseCount = other.spouseCount;
            for (int i = 0; i < spouseCount; i++) {
                spouses[i].copyFrom(other.spouses[i]);
            }
            table.copyFrom(other.table);
        }

        private boolean hasSpouse(int k) {
            return k >= 0 && k < spouseCount;
        }

        // -- statements: each answers false, and changes nothing, if it can't be by what there is

        private boolean serve(int from, int to, int pay) {
            if (spanCount >= MOST_SPANS || to <= from || from < born) {
                return false;
            }
            if ((retires != NONE && retires < to) || serviceWithin(from, to) > 0) {
                return false;
            }
            Span free = spans[spanCount];
            int place = spanCount;
            while (place > 0 && spans[place - 1].from > from) {
                spans[place] = spans[place - 1];
                place--;
            }
            spans[place] = free;
            free.from = from;
            free.to = to;
            free.pay = pay;
            spanCount++;
            recount();
            return true;
        }

        private boolean wed(int bornIn, int wedIn) {
            if (spouseCount >= MOST_SPOUSES || wedIn < born || wedIn < bornIn) {
                return false;
            }
            if (spouseCount > 0 && !spouses[spouseCount - 1].isPartedBy(wedIn)) {
                return false;
            }
            spouses[spouseCount].begin(bornIn, wedIn);
            spouseCount++;
            return true;
        }

        private boolean part(int month, int portion, int how, int survivor) {
            if (spouseCount == 0) {
                return false;
            }
            Spouse last = spouses[spouseCount - 1];
            if (last.parted != NONE || month <= last.wed) {
                return false;
            }
            last.parted = month;
            last.portion = portion;
            last.how = how;
            last.survivor = survivor;
            recount();
            return true;
        }

        private boolean alter(int what, int k, int v) {
            if (!canChange(what, k, v)) {
                return false;
            }
            change(what, k, v);
            return true;
        }

        // -- what set() changes, by the numbers of set()

        private boolean canChange(int what, int k, int v) {
            if (isTerm(what)) {
                return isWithin(SLOT_TERM + what - FIRST_TERM, v);
            }
            if (what == SET_RETIRES) {
                return v == NONE || (isMonth(v) && v >= born && v >= lastTo());
            }
            if (what == SET_DIES) {
                return v == NONE || (isMonth(v) && v > born);
            }
            if (!hasSpouse(k)) {
                return false;
            }
            Spouse spouse = spouses[k];
            boolean isParted = spouse.parted != NONE;
            switch (what) {
                case SET_PORTION: return isParted && isWithin(SLOT_PART, v);
                case SET_HOW: return isParted && isWithin(SLOT_HOW, v);
                case SET_SURVIVOR: return isParted && isWithin(SLOT_PART, v);
                case SET_CLAIMS: return isMonth(v);
                case SET_LOST: return v == NONE || (isMonth(v) && v > spouse.born);
                default: return false;
            }
        }

        private int valueOf(int what, int k) {
            if (isTerm(what)) {
                return terms[what - FIRST_TERM];
            }
            if (what == SET_RETIRES) {
                return retires;
            }
            if (what == SET_DIES || !hasSpouse(k)) {
                return dies;
            }
            Spouse spouse = spouses[k];
            switch (what) {
                case SET_PORTION: return spouse.portion;
                case SET_HOW: return spouse.how;
                case SET_SURVIVOR: return spouse.survivor;
                case SET_CLAIMS: return spouse.claims;
                default: return spouse.dies;
            }
        }

        private void change(int what, int k, int v) {
            if (isTerm(what)) {
                terms[what - FIRST_TERM] = v;
            } else if (what == SET_RETIRES) {
                retires = v;
            } else if (what == SET_DIES) {
                dies = v;
            } else if (hasSpouse(k)) {
                changeSpouse(spouses[k], what, v);
            }
        }

        private static void changeSpouse(Spouse spouse, int what, int v) {
            switch (what) {
                case SET_PORTION: spouse.portion = v; break;
                case SET_HOW: spouse.how = v; break;
                case SET_SURVIVOR: spouse.survivor = v; break;
                case SET_CLAIMS: spouse.claims = v; break;
                case SET_LOST: spouse.dies = v; break;
                default: break;
            }
        }

        // -- service and benefit

        private int lastTo() {
            return spanCount == 0 ? 0 : spans[spanCount - 1].to;
        }

        private int serviceWithin(int a, int b) {
            int months = 0;
            for (int i = 0; i < spanCount; i++) {
                int from = a > spans[i].from ? a : spans[i].from;
                int to = b < spans[i].to ? b : spans[i].to;
                months += to > from ? to - from : 0;
            }
            return months;
        }

        private void recount() {
            served = serviceWithin(0, MONTHS);
            for (int k = 0; k < spouseCount; k++) {
                Spouse spouse = spouses[k];
                spouse.served = spouse.parted == NONE ? 0 : serviceWithin(spouse.wed, spouse.parted);
            }
        }

        private int finalPay() {
            int months = 0;
            int pay = 0;
            for (int i = spanCount - 1; i >= 0; i--) {
                int left = FINAL_MONTHS - months;
                int there = spans[i].to - spans[i].from;
                int taken = there < left ? there : left;
                months += taken;
                pay += taken * spans[i].pay;
            }
            return months == 0 ? 0 : pay / months;
        }

        private int basePay() {
            return (int) ((long) finalPay() * terms[PER] * served / 120000L);
        }

        private int firstPay() {
            if (retires == NONE) {
                return 0;
            }
            int monthsEarly = Math.max(0, terms[NORMAL] - (retires - born));
            int thousandths = Math.max(0, 1000 - terms[EARLY] * monthsEarly);
            return (int) ((long) basePay() * thousandths / 1000L);
        }

        private long shareOf(Spouse spouse, int whole) {
            if (served == 0) {
                return 0L;
            }
            return (long) whole * spouse.portion * spouse.served / (1000L * served);
        }

        private int beginOf(Spouse spouse) {
            return retires == NONE ? NONE : Math.max(retires, spouse.claims);
        }
    }

    /** WHAT HAPPENS: the codes of happens() rise in just the order that is asked for. */
    private static final class Calendar {
        private final int[] codes = new int[2 * MOST_SPANS + 4 * MOST_SPOUSES + 2];
        private int size = 0;

        private void fill(Plan plan) {
            size = 0;
            for (int i = 0; i < plan.spanCount; i++) {
                add(plan.spans[i].from, 0, i);
                add(plan.spans[i].to, 1, i);
            }
            for (int k = 0; k < plan.spouseCount; k++) {
                Spouse spouse = plan.spouses[k];
                add(spouse.wed, 2, k);
                add(spouse.parted, 3, k);
                add(spouse.parted == NONE ? NONE : plan.beginOf(spouse), 5, k);
                add(spouse.dies, 6, k);
            }
            add(plan.retires, 4, 0);
            add(plan.dies, 7, 0);
        }

        private void add(int month, int kind, int number) {
            if (month == NONE || size >= codes.length) {
                return;
            }
            int code = 100 * month + 10 * kind + number;
            int place = size;
            while (place > 0 && codes[place - 1] > code) {
                codes[place] = codes[place - 1];
                place--;
            }
            codes[place] = code;
            size++;
        }
    }

    /** What is paid and what it is worth; the rows are made once and filled anew by each call that reads them. */
    private static final class Reckoner {
        private final int[] wholes = new int[MONTHS];
        private final int[] discounts = new int[MONTHS];
        private final int[] memberOdds = new int[MONTHS];
        private final int[] spouseOdds = new int[MONTHS];
        private final long[] owns = new long[MOST_SPOUSES];
        private final Spouse changed = new Spouse();

        // -- rows

        private void fillWholes(Plan plan) {
            long value = 0L;
            for (int m = 0; m < MONTHS; m++) {
                if (m == plan.retires) {
                    value = plan.firstPay();
                } else if (plan.retires != NONE && m > plan.retires && (m - plan.retires) % 12 == 0) {
                    value = value * (1000 + plan.terms[COLA]) / 1000L;
                }
                wholes[m] = (int) value;
            }
        }

        private void fillDiscounts(Plan plan) {
            long value = ONE;
            for (int k = 0; k < MONTHS; k++) {
                discounts[k] = (int) value;
                value = value * 12000L / (12000L + plan.terms[INTEREST]);
            }
        }

        private static void fillOdds(Plan plan, int born, int t, int[] row) {
            int living = plan.table.livesAt(t - born);
            for (int m = t; m < MONTHS && m < row.length; m++) {
                row[m] = living == 0 ? 0 : (int) (ONE * plan.table.livesAt(m - born) / living);
            }
        }

        // -- payments

        /** Comes ahead of paidTo, paidWithin: OWN is dear and the same in all MONTHS. */
        private void prepare(Plan plan) {
            fillWholes(plan);
            for (int k = 0; k < plan.spouseCount; k++) {
                Spouse spouse = plan.spouses[k];
                owns[k] = spouse.how == APART ? ownOf(plan, spouse) : 0L;
            }
        }

        private long paidWithin(Plan plan, int who, int a, int b) {
            long all = 0L;
            for (int m = a; m < b; m++) {
                all += paidTo(plan, m, who);
            }
            return all;
        }

        private long paidTo(Plan plan, int month, int who) {
            if (who == MEMBER) {
                return paidToMember(plan, month);
            }
            if (who == REST) {
                return restOf(plan, month);
            }
            return plan.hasSpouse(who) ? paidToSpouse(plan, plan.spouses[who], month, owns[who]) : 0L;
        }

        private long paidToSpouse(Plan plan, Spouse spouse, int month, long own) {
            if (!spouse.isPartedBy(month) || plan.retires == NONE || month < plan.beginOf(spouse)) {
                return 0L;
            }
            if (!isAlive(spouse.dies, month)) {
                return 0L;
            }
            if (spouse.how == APART) {
                return own;
            }
            long share = plan.shareOf(spouse, wholes[month]);
            return isAlive(plan.dies, month) ? share : share * spouse.survivor / 1000L;
        }

        private long paidToMember(Plan plan, int month) {
            if (!isAlive(plan.dies, month)) {
                return 0L;
            }
            long left = wholes[month];
            for (int k = 0; k < plan.spouseCount; k++) {
                Spouse spouse = plan.spouses[k];
                if (spouse.how == SHARED) {
                    left -= paidToSpouse(plan, spouse, month, 0L);
                } else if (spouse.isPartedBy(month)) {
                    left -= plan.shareOf(spouse, wholes[month]);
                }
            }
            return left;
        }

        private long restOf(Plan plan, int month) {
            long rest = wholes[month] - paidToMember(plan, month);
            for (int k = 0; k < plan.spouseCount; k++) {
                rest -= paidToSpouse(plan, plan.spouses[k], month, owns[k]);
            }
            return rest;
        }

        private static boolean isAlive(int dies, int month) {
            return dies == NONE || month < dies;
        }

        private int firstCrossing(Plan plan, Spouse spouse) {
            long own = ownOf(plan, spouse);
            fillWholes(plan);
            changed.copyFrom(spouse);
            changed.how = spouse.how == APART ? SHARED : APART;
            long ahead = 0L;
            for (int m = 0; m < MONTHS; m++) {
                ahead += paidToSpouse(plan, changed, m, own) - paidToSpouse(plan, spouse, m, own);
                if (ahead > 0L) {
                    return m;
                }
            }
            return NONE;
        }

        // -- worths

        /** Leaves the ODDS it has used in spouseOdds: bestClaim goes on with them. */
        private long annuityOf(Plan plan, int born, int t, int s) {
            fillDiscounts(plan);
            fillOdds(plan, born, t, spouseOdds);
            long all = 0L;
            for (int m = s; m < MONTHS; m++) {
                all += annuityIn(t, m);
            }
            return all;
        }

        private long annuityIn(int t, int m) {
            return (long) discounts[m - t] * spouseOdds[m] / ONE;
        }

        private long ownOf(Plan plan, Spouse spouse) {
            if (plan.retires == NONE || plan.born > plan.retires || spouse.born > plan.retires) {
                return 0L;
            }
            long share = plan.shareOf(spouse, plan.firstPay());
            long members = annuityOf(plan, plan.born, plan.retires, plan.retires);
            return ownBy(share, members, annuityOf(plan, spouse.born, plan.retires, plan.beginOf(spouse)));
        }

        /** What the SHARE would bring as long as THE MEMBER lives is spread over the SPOUSE's life. */
        private static long ownBy(long share, long members, long theirs) {
            return theirs == 0L ? 0L : Math.min(ONE, share * members / ONE * ONE / theirs);
        }

        private long worthOfAll(Plan plan, int t) {
            fillWholes(plan);
            fillDiscounts(plan);
            fillOdds(plan, plan.born, t, memberOdds);
            long all = 0L;
            for (int m = Math.max(plan.retires, t); m < MONTHS; m++) {
                all += discounts[m - t] * ((long) wholes[m] * memberOdds[m] / ONE) / ONE;
            }
            return all;
        }

        /** OWN comes first: it fills the same rows by RETIRES. */
        private long worthOfSpouse(Plan plan, Spouse spouse, int t) {
            long own = spouse.how == APART ? ownOf(plan, spouse) : 0L;
            int from = Math.max(plan.beginOf(spouse), t);
            fillDiscounts(plan);
            fillOdds(plan, spouse.born, t, spouseOdds);
            if (spouse.how == APART) {
                return worthApart(own, t, from);
            }
            fillWholes(plan);
            fillOdds(plan, plan.born, t, memberOdds);
            return worthShared(plan, spouse, t, from);
        }

        private long worthApart(long own, int t, int from) {
            long all = 0L;
            for (int m = from; m < MONTHS; m++) {
                all += discounts[m - t] * (own * spouseOdds[m] / ONE) / ONE;
            }
            return all;
        }

        private long worthShared(Plan plan, Spouse spouse, int t, int from) {
            long all = 0L;
            for (int m = from; m < MONTHS; m++) {
                long share = plan.shareOf(spouse, wholes[m]);
                long behind = share * spouse.survivor / 1000L;
                long both = (long) memberOdds[m] * spouseOdds[m] / ONE;
                long x = (share * both + behind * (spouseOdds[m] - both)) / ONE;
                all += discounts[m - t] * x / ONE;
            }
            return all;
        }

        /** A SHARE that is claimed later only loses months, so for SHARED the first month is the best. */
        private int bestClaim(Plan plan, Spouse spouse) {
            int t = plan.retires;
            if (spouse.how == SHARED) {
                return t;
            }
            long share = plan.shareOf(spouse, plan.firstPay());
            long members = annuityOf(plan, plan.born, t, t);
            long theirs = annuityOf(plan, spouse.born, t, t);
            int best = t;
            long most = -1L;
            for (int claim = t; claim <= t + CLAIM_MONTHS && claim < MONTHS; claim++) {
                long worth = worthApart(ownBy(share, members, theirs), t, claim);
                if (worth > most) {
                    most = worth;
                    best = claim;
                }
                theirs -= annuityIn(t, claim);
            }
            return best;
        }

        /** WORTH never falls while PORTION rises, so the least is found by halving what is left. */
        private int leastHalf(Plan plan, Spouse spouse) {
            long all = worthOfAll(plan, plan.retires);
            changed.copyFrom(spouse);
            int low = 0;
            int high = 1001;
            for (int step = 0; step < 16 && low < high; step++) {
                int middle = (low + high) / 2;
                changed.portion = middle;
                if (middle <= 1000 && 2L * worthOfSpouse(plan, changed, plan.retires) < all) {
                    low = middle + 1;
                } else {
                    high = middle;
                }
            }
            return low > 1000 ? NONE : low;
        }
    }

    /** The first word of a STATEMENT, with what stands behind it. */
    private enum Verb {
        BORN("born", SLOT_MONTH, SLOT_EMPTY, SLOT_EMPTY, SLOT_EMPTY),
        SERVE("serve", SLOT_MONTH, SLOT_MONTH, SLOT_PAY, SLOT_EMPTY),
        WED("wed", SLOT_MONTH, SLOT_MONTH, SLOT_EMPTY, SLOT_EMPTY),
        PART("part", SLOT_MONTH, SLOT_PART, SLOT_HOW, SLOT_PART),
        LIVES("lives", SLOT_YEARS, SLOT_LIVING, SLOT_EMPTY, SLOT_EMPTY),
        CLAIM("claim", SLOT_SPOUSE, SLOT_MONTH, SLOT_EMPTY, SLOT_EMPTY),
        LOST("lost", SLOT_SPOUSE, SLOT_MONTH, SLOT_EMPTY, SLOT_EMPTY),
        DIES("dies", SLOT_MONTH, SLOT_EMPTY, SLOT_EMPTY, SLOT_EMPTY),
        RETIRE("retire", SLOT_MONTH, SLOT_EMPTY, SLOT_EMPTY, SLOT_EMPTY),
        PER_WORD("per", SLOT_TERM + PER, SLOT_EMPTY, SLOT_EMPTY, SLOT_EMPTY),
        NORMAL_WORD("normal", SLOT_TERM + NORMAL, SLOT_EMPTY, SLOT_EMPTY, SLOT_EMPTY),
        EARLY_WORD("early", SLOT_TERM + EARLY, SLOT_EMPTY, SLOT_EMPTY, SLOT_EMPTY),
        COLA_WORD("cola", SLOT_TERM + COLA, SLOT_EMPTY, SLOT_EMPTY, SLOT_EMPTY),
        INTEREST_WORD("interest", SLOT_TERM + INTEREST, SLOT_EMPTY, SLOT_EMPTY, SLOT_EMPTY);

        private static final Verb[] ALL = values();

        private final String word;
        private final int first;
        private final int second;
        private final int third;
        private final int fourth;

        Verb(String word, int first, int second, int third, int fourth) {
            this.word = word;
            this.first = first;
            this.second = second;
            this.third = third;
            this.fourth = fourth;
        }

        private int slot(int i) {
            switch (i) {
                case 0: return first;
                case 1: return second;
                case 2: return third;
                case 3: return fourth;
                default: return SLOT_EMPTY;
            }
        }

        private boolean isFull(Plan plan) {
            switch (this) {
                case SERVE: return plan.spanCount >= MOST_SPANS;
                case WED: return plan.spouseCount >= MOST_SPOUSES;
                default: return false;
            }
        }

        /** false: it can't be by what there is. */
        private boolean perform(Plan plan, int a, int b, int c, int d) {
            switch (this) {
                case BORN:
                    plan.beginAnew(a);
                    return true;
                case SERVE: return plan.serve(a, b, c);
                case WED: return plan.wed(a, b);
                case PART: return plan.part(a, b, c, d);
                case LIVES: return plan.table.tellYear(a, b);
                case CLAIM: return plan.alter(SET_CLAIMS, a, b);
                case LOST: return plan.alter(SET_LOST, a, b);
                case DIES: return plan.alter(SET_DIES, 0, a);
                case RETIRE: return plan.alter(SET_RETIRES, 0, a);
                default: return plan.alter(FIRST_TERM + first - SLOT_TERM, 0, a);
            }
        }
    }

    /** Holds the TAPE, reads it as a TEXT and does its STATEMENTS one by one, up to the first FAULT. */
    private static final class Reader {
        private static final int TOKEN_END = 0;
        private static final int TOKEN_WORD = 1;
        private static final int TOKEN_NUMBER = 2;
        private static final int TOKEN_CLOSE = 3;
        private static final int TOKEN_WRONG = 4;
        private static final int MOST_DIGITS = 7;

        private final byte[] bytes = new byte[MOST_BYTES];
        private int length = 0;
        private int next;
        private int token;
        private int place;
        private int number;
        private final int[] values = new int[4];
        private int fault;

        private void append(int number) {
            for (int shift = 24; shift >= 0; shift -= 8) {
                if (length < MOST_BYTES) {
                    bytes[length] = (byte) (number >>> shift);
                    length++;
                }
            }
        }

        /** How many STATEMENTS were done; this counts only if fault is 0. */
        private int readAll(Plan plan) {
            next = 0;
            fault = 0;
            int statements = 0;
            readToken();
            while (statements < MOST_BYTES && token != TOKEN_END && fault == 0) {
                readStatement(plan);
                statements++;
            }
            return statements;
        }

        private void readStatement(Plan plan) {
            int start = place;
            Verb verb = token == TOKEN_WORD ? verbHere() : null;
            if (verb == null) {
                blame(CANT_STAND, start);
                return;
            }
            if (verb.isFull(plan)) {
                blame(ONE_TOO_MANY, start);
                return;
            }
            for (int i = 0; i < values.length && fault == 0; i++) {
                readSlot(plan, verb.slot(i), i);
            }
            readClose();
            if (fault == 0 && !verb.perform(plan, values[0], values[1], values[2], values[3])) {
                blame(CANT_BE_HERE, start);
            }
            if (fault == 0) {
                readToken();
            }
        }

        private void readSlot(Plan plan, int slot, int i) {
            if (slot == SLOT_EMPTY) {
                return;
            }
            readToken();
            if (slot == SLOT_HOW) {
                readHow(i);
            } else if (token != TOKEN_NUMBER) {
                blame(CANT_STAND, place);
            } else if (!isWithin(slot, number) || (slot == SLOT_SPOUSE && !plan.hasSpouse(number))) {
                blame(CANT_BE_ITSELF, place);
            } else {
                values[i] = number;
            }
        }

        private void readHow(int i) {
            if (token == TOKEN_WORD && isWord("shared")) {
                values[i] = SHARED;
            } else if (token == TOKEN_WORD && isWord("apart")) {
                values[i] = APART;
            } else {
                blame(CANT_STAND, place);
            }
        }

        private void readClose() {
            if (fault != 0) {
                return;
            }
            readToken();
            if (token != TOKEN_CLOSE) {
                blame(CANT_STAND, place);
            }
        }

        private void blame(int kind, int where) {
            fault = kind + 8 * where;
        }

        private Verb verbHere() {
            for (int i = 0; i < Verb.ALL.length; i++) {
                if (isWord(Verb.ALL[i].word)) {
                    return Verb.ALL[i];
                }
            }
            return null;
        }

        /** Whether the token that was read last, from place on up to next, is this word. */
        private boolean isWord(String word) {
            if (word.length() != next - place) {
                return false;
            }
            for (int i = 0; i < word.length(); i++) {
                if (byteAt(place + i) != word.charAt(i)) {
                    return false;
                }
            }
            return true;
        }

        private void readToken() {
            while (next < length && (bytes[next] == 32 || bytes[next] == 10)) {
                next++;
            }
            place = next;
            if (next >= length) {
                token = TOKEN_END;
            } else if (isLetter(byteAt(next))) {
                readWord();
            } else if (isDigit(byteAt(next))) {
                readNumber();
            } else {
                token = bytes[next] == ';' ? TOKEN_CLOSE : TOKEN_WRONG;
                next++;
            }
        }

        private void readWord() {
            token = TOKEN_WORD;
            while (next < length && isLetter(byteAt(next))) {
                next++;
            }
        }

        private void readNumber() {
            number = 0;
            while (next < length && isDigit(byteAt(next))) {
                if (next - place < MOST_DIGITS) {
                    number = 10 * number + byteAt(next) - '0';
                }
                next++;
            }
            token = next - place > MOST_DIGITS ? TOKEN_WRONG : TOKEN_NUMBER;
        }

        private int byteAt(int i) {
            return i >= 0 && i < length ? bytes[i] & 255 : 0;
        }

        private static boolean isLetter(int sign) {
            return sign >= 'a' && sign <= 'z';
        }

        private static boolean isDigit(int sign) {
            return sign >= '0' && sign <= '9';
        }
    }
}

/** Goods sold with promises, the claims that come of them, and what the claims tell: ../shared/DOC.md. */
public final class UnderPromise {
    public static final int NONE = -1, BAD = -2, NO = -3, FULL = -4;

    private static final int BATCHES = 8, LANDS = 4, PARTS = 10, MAKERS = 6;
    private static final int MOST_THINGS = 60, MOST_CLAIMS = 100;
    private static final int LAST_SALE = 119, LAST_MONTH = 300;
    private static final int MOST_MILES_A_MONTH = 5000, MOST_COST = 10000;
    private static final int MOST_PROMISED_MONTHS = 120, MOST_PROMISED_MILES = 600000;
    private static final int FIRST_PROMISED_MONTHS = 24, FIRST_PROMISED_MILES = 60000;
    private static final int MOST_AGAIN = 12, FIRST_AGAIN = 1;
    private static final int LAST_DELAY = 11;
    private static final int HUNDREDTHS = 100;
    private static final int ALL_BATCHES = (1 << BATCHES) - 1, ALL_PARTS = (1 << PARTS) - 1;
    private static final int LET = 0, BEFORE = 1, TWICE = 2, OUT = 3, AGAIN = 4;
    private static final int LAST_ABOUT = 6, LAST_COUNT = 8;
    /** Euclid's steps on two longs end before this many. */
    private static final int MOST_STEPS = 200;

    private final Things things;
    private final Claims claims;
    private final Parts parts;
    private final Ways ways;
    private int monthsAhead;

    public UnderPromise() {
        things = new Things();
        claims = new Claims();
        parts = new Parts();
        ways = new Ways();
        monthsAhead = FIRST_AGAIN;
    }

    // ---- things, promises

    public int thing(int batch, int month, int miles, int land) {
        if (!isBatch(batch) || !isSaleMonth(month)) return BAD;
        if (!isWithin(miles, 0, MOST_MILES_A_MONTH) || !isLand(land)) return BAD;
        return things.add(batch, month, miles, land);
    }

    public int promise(int land, int months, int miles) {
        if (!isLand(land) || !isWithin(months, 0, MOST_PROMISED_MONTHS)) return BAD;
        if (!isWithin(miles, 0, MOST_PROMISED_MILES)) return BAD;
        things.landMonths[land] = months;
        things.landMiles[land] = miles;
        return 1;
    }

    public int again(int g) {
        if (!isWithin(g, 0, MOST_AGAIN)) return BAD;
        int was = monthsAhead;
        monthsAhead = g;
        return was;
    }

    public int promised(int thing, int month) {
        if (!things.has(thing) || !isMonth(month)) return BAD;
        return things.covers(thing, month) ? 1 : 0;
    }

    public int last(int thing) {
        return things.has(thing) ? things.lastCovered(thing) : BAD;
    }

    // ---- claims

    public int claim(int thing, int part, int month, int told, int cost) {
        if (!things.has(thing) || !isPart(part)) return BAD;
        if (!isMonth(month) || !isMonth(told) || told < month) return BAD;
        if (!isWithin(cost, 0, MOST_COST)) return BAD;
        int age = month - things.sold[thing];
        return claims.add(thing, part, month, told, cost, age, judge(thing, part, month));
    }

    public int about(int claim, int what) {
        if (claim < 0 || !isWithin(what, 0, LAST_ABOUT)) return BAD;
        return claim < claims.size ? claims.tell(claim, what) : NONE;
    }

    public int table(int s, int a, int by) {
        if (!isSaleMonth(s) || !isMonth(a) || !isMonth(by)) return BAD;
        return claims.letSoldInAtAge(s, a, by);
    }

    public int exposed(int a, int by) {
        if (!isMonth(a) || !isMonth(by)) return BAD;
        return things.coveredAtAge(a, by);
    }

    public int rate(int a, int by, int what) {
        if (!isMonth(a) || !isMonth(by) || !isAboveOrBelow(what)) return BAD;
        int below = things.coveredAtAge(a, by);
        if (below == 0) return NO;
        return (int) ofLowestTerms(claims.letAtAge(a, by), below, what);
    }

    public int delays(int t, int d) {
        if (!isMonth(t) || !isWithin(d, 0, LAST_DELAY)) return BAD;
        return claims.letDelayed(d, d, t);
    }

    public int undone(int f, int t) {
        if (!isMonth(f) || !isMonth(t) || f > t) return BAD;
        int came = claims.letFailedIn(f, t);
        if (t - f >= LAST_DELAY) return came;
        int inTime = claims.letDelayed(0, t - f, t);
        if (inTime == 0) return NONE;
        return came * claims.letDelayed(0, LAST_DELAY, t) / inTime;
    }

    public long chance(int batch, int part, int by, int what) {
        if (!isBatch(batch) || !isPart(part) || !isMonth(by) || !isAboveOrBelow(what)) return BAD;
        long ofBatch = things.ofBatch(batch);
        if (ofBatch == 0) return NO;
        long hit = claims.thingsLetFor(1 << part, by);
        return ofLowestTerms(waysAsOddOrOdder(ofBatch, hit), waysInAll(ofBatch), what);
    }

    public int oddest(int part, int by) {
        if (!isPart(part) || !isMonth(by)) return BAD;
        long hit = claims.thingsLetFor(1 << part, by);
        int oddest = NONE;
        long leastAbove = 1, leastBelow = 1;
        for (int batch = 0; batch < BATCHES; batch++) {
            long ofBatch = things.ofBatch(batch);
            if (ofBatch == 0) continue;
            long above = waysAsOddOrOdder(ofBatch, hit), below = waysInAll(ofBatch);
            if (oddest == NONE || isLess(above, below, leastAbove, leastBelow)) {
                oddest = batch;
                leastAbove = above;
                leastBelow = below;
            }
        }
        return oddest;
    }

    // ---- parts, makers

    public int under(int part, int above) {
        if (!isPart(part) || (!isPart(above) && above != NONE)) return BAD;
        if (parts.standsInRowOf(above, part)) return NO;
        parts.above[part] = above;
        return 1;
    }

    public int maker(int part, int maker, int share) {
        if (!isPart(part) || (!isMaker(maker) && maker != NONE)) return BAD;
        if (!isWithin(share, 0, HUNDREDTHS)) return BAD;
        parts.maker[part] = maker;
        parts.share[part] = share;
        return 1;
    }

    public int payer(int part) {
        if (!isPart(part)) return BAD;
        int bound = parts.firstWithMaker(part);
        return isPart(bound) ? parts.maker[bound] : NONE;
    }

    public int pays(int maker) {
        return isMaker(maker) ? paidBy(maker) : BAD;
    }

    public int left() {
        int rest = claims.letCost();
        for (int maker = 0; maker < MAKERS; maker++) rest -= paidBy(maker);
        return rest;
    }

    public int called(int part, int batches, int from, int to) {
        if (!canBeCalled(part, batches, from, to)) return BAD;
        return Long.bitCount(thingsCalled(part, batches, from, to));
    }

    public int calledAt(int part, int batches, int from, int to, int i) {
        if (!canBeCalled(part, batches, from, to) || i < 0) return BAD;
        long bits = thingsCalled(part, batches, from, to);
        int ahead = 0;
        for (int thing = 0; thing < MOST_THINGS; thing++) {
            if (!hasBit(bits, thing)) continue;
            if (ahead == i) return thing;
            ahead++;
        }
        return NONE;
    }

    public int count(int what) {
        if (!isWithin(what, 0, LAST_COUNT)) return BAD;
        if (what == 0) return things.size;
        if (what == 1) return claims.size;
        if (what == 7) return Long.bitCount(claims.thingsLetFor(ALL_PARTS, LAST_MONTH));
        if (what == 8) return claims.letCost();
        return claims.judgedAs(what - 2);
    }

    public long digest() {
        long h = 199;
        for (int what = 0; what <= LAST_COUNT; what++) h = 31 * h + count(what);
        h = things.digestOnto(h);
        h = claims.digestOnto(h);
        return parts.digestOnto(h);
    }

    // ---- what is as told

    private static boolean isWithin(int number, int least, int most) {
        return number >= least && number <= most;
    }

    private static boolean isBatch(int batch) {
        return isWithin(batch, 0, BATCHES - 1);
    }

    private static boolean isLand(int land) {
        return isWithin(land, 0, LANDS - 1);
    }

    private static boolean isPart(int part) {
        return isWithin(part, 0, PARTS - 1);
    }

    private static boolean isMaker(int maker) {
        return isWithin(maker, 0, MAKERS - 1);
    }

    private static boolean isSaleMonth(int month) {
        return isWithin(month, 0, LAST_SALE);
    }

    /** Ages are bounded as months are: an age is a difference of two of them. */
    private static boolean isMonth(int month) {
        return isWithin(month, 0, LAST_MONTH);
    }

    private static boolean isAboveOrBelow(int what) {
        return what == 0 || what == 1;
    }

    private static boolean canBeCalled(int part, int batches, int from, int to) {
        return isPart(part) && isWithin(batches, 1, ALL_BATCHES)
                && isSaleMonth(from) && isSaleMonth(to) && from <= to;
    }

    private static boolean hasBit(long bits, int place) {
        return ((bits >>> place) & 1) != 0;
    }

    // ---- what needs things, claims and parts together

    private int judge(int thing, int part, int month) {
        if (month < things.sold[thing]) return BEFORE;
        if (claims.anyLet(thing, part, month, month)) return TWICE;
        if (!things.covers(thing, month)) return OUT;
        if (claims.anyLet(thing, part, month - monthsAhead, month - 1)) return AGAIN;
        return LET;
    }

    /** The ways to choose as many THINGS as the BATCH has, with as many that were hit or more. */
    private long waysAsOddOrOdder(long ofBatch, long hit) {
        int hitOfBatch = Long.bitCount(ofBatch & hit);
        return ways.withAtLeast(hitOfBatch, Long.bitCount(ofBatch), Long.bitCount(hit), things.size);
    }

    private long waysInAll(long ofBatch) {
        return ways.choose(things.size, Long.bitCount(ofBatch));
    }

    private int paidBy(int maker) {
        int sum = 0;
        for (int i = 0; i < claims.size; i++) {
            if (claims.judged[i] != LET) continue;
            int bound = parts.firstWithMaker(claims.part[i]);
            if (isPart(bound) && parts.maker[bound] == maker) {
                sum += claims.cost[i] * parts.share[bound] / HUNDREDTHS;
            }
        }
        return sum;
    }

    private long thingsCalled(int part, int batches, int from, int to) {
        long failed = claims.thingsLetFor(parts.withAllUnder(part), LAST_MONTH);
        return things.soldOf(batches, from, to) & ~failed;
    }

    // ---- fractions

    private static long ofLowestTerms(long above, long below, int what) {
        long common = greatestCommonDivisor(above, below);
        if (common <= 0) return NO;
        return (what == 0 ? above : below) / common;
    }

    private static long greatestCommonDivisor(long a, long b) {
        long greater = a, lesser = b;
        for (int step = 0; step < MOST_STEPS && lesser != 0; step++) {
            long rest = greater % lesser;
            greater = lesser;
            lesser = rest;
        }
        return greater;
    }

    /**
     * Whether a / b is less than c / d, for numbers not below 0 and divisors above 0. The products
     * across would not fit a long, so whole parts are compared, then the rests turned upside down.
     */
    private static boolean isLess(long a, long b, long c, long d) {
        long above = a, below = b, otherAbove = c, otherBelow = d;
        for (int step = 0; step < MOST_STEPS && below > 0 && otherBelow > 0; step++) {
            long whole = above / below, otherWhole = otherAbove / otherBelow;
            if (whole != otherWhole) return whole < otherWhole;
            long rest = above % below, otherRest = otherAbove % otherBelow;
            if (rest == 0 || otherRest == 0) return otherRest > 0;
            // rest / below < otherRest / otherBelow just when the other's turned one is the less
            above = otherBelow;
            otherAbove = below;
            below = otherRest;
            otherBelow = rest;
        }
        return false;
    }

    /** THINGS by their numbers, and the PROMISES of their LANDS. Sets of THINGS are the bits of a long. */
    private static final class Things {
        private final int[] batch = new int[MOST_THINGS];
        private final int[] sold = new int[MOST_THINGS];
        private final int[] miles = new int[MOST_THINGS];
        private final int[] land = new int[MOST_THINGS];
        private final int[] landMonths = new int[LANDS];
        private final int[] landMiles = new int[LANDS];
        private int size = 0;

        Things() {
            for (int i = 0; i < LANDS; i++) {
                landMonths[i] = FIRST_PROMISED_MONTHS;
                landMiles[i] = FIRST_PROMISED_MILES;
            }
        }

        boolean has(int thing) {
            return thing >= 0 && thing < size;
        }

        int add(int ofBatch, int month, int milesAMonth, int inLand) {
            if (size >= MOST_THINGS) return FULL;
            int number = size;
            batch[number] = ofBatch;
            sold[number] = month;
            miles[number] = milesAMonth;
            land[number] = inLand;
            size++;
            return number;
        }

        boolean covers(int thing, int month) {
            int age = month - sold[thing];
            return age >= 0 && age < landMonths[land[thing]] && age * miles[thing] < landMiles[land[thing]];
        }

        int lastCovered(int thing) {
            int months = landMonths[land[thing]], most = landMiles[land[thing]];
            if (months == 0 || most == 0) return NONE;
            int age = months - 1;
            if (miles[thing] > 0) age = Math.min(age, (most - 1) / miles[thing]);
            return sold[thing] + age;
        }

        int coveredAtAge(int age, int by) {
            int number = 0;
            for (int i = 0; i < size; i++) {
                int month = sold[i] + age;
                if (month <= by && covers(i, month)) number++;
            }
            return number;
        }

        long ofBatch(int wanted) {
            return soldOf(1 << wanted, 0, LAST_SALE);
        }

        long soldOf(int batches, int from, int to) {
            long bits = 0;
            for (int i = 0; i < size; i++) {
                if (hasBit(batches, batch[i]) && sold[i] >= from && sold[i] <= to) bits |= 1L << i;
            }
            return bits;
        }

        long digestOnto(long digest) {
            long h = digest;
            for (int i = 0; i < size; i++) {
                h = 31 * h + batch[i];
                h = 31 * h + sold[i];
                h = 31 * h + miles[i];
                h = 31 * h + land[i];
                h = 31 * h + lastCovered(i);
            }
            return h;
        }
    }

    /** CLAIMS by their numbers, with how they were JUDGED as they came. */
    private static final class Claims {
        private final int[] thing = new int[MOST_CLAIMS];
        private final int[] part = new int[MOST_CLAIMS];
        private final int[] failed = new int[MOST_CLAIMS];
        private final int[] told = new int[MOST_CLAIMS];
        private final int[] cost = new int[MOST_CLAIMS];
        private final int[] age = new int[MOST_CLAIMS];
        private final int[] judged = new int[MOST_CLAIMS];
        private int size = 0;

        int add(int ofThing, int byPart, int month, int toldIn, int costs, int atAge, int asJudged) {
            if (size >= MOST_CLAIMS) return FULL;
            thing[size] = ofThing;
            part[size] = byPart;
            failed[size] = month;
            told[size] = toldIn;
            cost[size] = costs;
            age[size] = atAge;
            judged[size] = asJudged;
            size++;
            return asJudged;
        }

        int tell(int claim, int what) {
            switch (what) {
                case 0: return thing[claim];
                case 1: return part[claim];
                case 2: return failed[claim];
                case 3: return told[claim];
                case 4: return cost[claim];
                case 5: return judged[claim];
                default: return delay(claim);
            }
        }

        private int delay(int claim) {
            return told[claim] - failed[claim];
        }

        private boolean isLetBy(int claim, int month) {
            return judged[claim] == LET && told[claim] <= month;
        }

        boolean anyLet(int ofThing, int byPart, int from, int to) {
            for (int i = 0; i < size; i++) {
                boolean same = thing[i] == ofThing && part[i] == byPart;
                if (same && judged[i] == LET && failed[i] >= from && failed[i] <= to) return true;
            }
            return false;
        }

        int letAtAge(int wanted, int by) {
            int number = 0;
            for (int i = 0; i < size; i++) {
                if (isLetBy(i, by) && age[i] == wanted) number++;
            }
            return number;
        }

        int letSoldInAtAge(int soldIn, int wanted, int by) {
            int number = 0;
            for (int i = 0; i < size; i++) {
                if (isLetBy(i, by) && age[i] == wanted && failed[i] == soldIn + wanted) number++;
            }
            return number;
        }

        int letFailedIn(int month, int by) {
            int number = 0;
            for (int i = 0; i < size; i++) {
                if (isLetBy(i, by) && failed[i] == month) number++;
            }
            return number;
        }

        /** Counts only months of failing so old that every delay looked at could have come to its end. */
        int letDelayed(int least, int most, int by) {
            int number = 0;
            for (int i = 0; i < size; i++) {
                boolean old = failed[i] <= by - LAST_DELAY;
                if (old && isLetBy(i, by) && delay(i) >= least && delay(i) <= most) number++;
            }
            return number;
        }

        long thingsLetFor(int partBits, int by) {
            long bits = 0;
            for (int i = 0; i < size; i++) {
                if (isLetBy(i, by) && hasBit(partBits, part[i])) bits |= 1L << thing[i];
            }
            return bits;
        }

        int judgedAs(int wanted) {
            int number = 0;
            for (int i = 0; i < size; i++) {
                if (judged[i] == wanted) number++;
            }
            return number;
        }

        int letCost() {
            int sum = 0;
            for (int i = 0; i < size; i++) {
                if (judged[i] == LET) sum += cost[i];
            }
            return sum;
        }

        long digestOnto(long digest) {
            long h = digest;
            for (int i = 0; i < size; i++) {
                for (int what = 0; what <= LAST_ABOUT; what++) h = 31 * h + tell(i, what);
            }
            return h;
        }
    }

    /** PARTS, what they stand under, and who pays for them. */
    private static final class Parts {
        private final int[] above = new int[PARTS];
        private final int[] maker = new int[PARTS];
        private final int[] share = new int[PARTS];

        Parts() {
            for (int i = 0; i < PARTS; i++) {
                above[i] = NONE;
                maker[i] = NONE;
            }
        }

        /** Whether a PART is another one or stands under it, by however long a row. */
        boolean standsInRowOf(int part, int top) {
            int at = part;
            for (int step = 0; step < PARTS && isPart(at); step++) {
                if (at == top) return true;
                at = above[at];
            }
            return false;
        }

        int withAllUnder(int top) {
            int bits = 0;
            for (int i = 0; i < PARTS; i++) {
                if (standsInRowOf(i, top)) bits |= 1 << i;
            }
            return bits;
        }

        int firstWithMaker(int part) {
            int at = part;
            for (int step = 0; step < PARTS && isPart(at); step++) {
                if (maker[at] != NONE) return at;
                at = above[at];
            }
            return NONE;
        }

        long digestOnto(long digest) {
            long h = digest;
            for (int i = 0; i < PARTS; i++) {
                h = 31 * h + above[i];
                h = 31 * h + maker[i];
                h = 31 * h + share[i];
            }
            return h;
        }
    }

    /** How many ways there are to choose some of many: all of them fit a long up to 60 of 60. */
    private static final class Ways {
        private final long[][] rows = new long[MOST_THINGS + 1][MOST_THINGS + 1];

        Ways() {
            for (int all = 0; all <= MOST_THINGS; all++) {
                rows[all][0] = 1;
                for (int some = 1; some <= all; some++) {
                    rows[all][some] = rows[all - 1][some - 1] + rows[all - 1][some];
                }
            }
        }

        long choose(int all, int some) {
            if (all < 0 || all > MOST_THINGS || some < 0 || some > all) return 0;
            return rows[all][some];
        }

        /** The ways to choose some of all, when so many of all are marked, with at least so many marked ones. */
        long withAtLeast(int least, int some, int marked, int all) {
            long sum = 0;
            for (int i = least; i <= marked && i <= some; i++) {
                sum += choose(marked, i) * choose(all - marked, some - i);
            }
            return sum;
        }
    }
}

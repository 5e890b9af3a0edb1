import java.math.BigInteger;

/** Promises 7 to 15: each sentence of the document that names an edge has a test of its own. */
public final class ClaimEdgeTests {
    private static final int NONE = UnderPromise.NONE, BAD = UnderPromise.BAD, NO = UnderPromise.NO;
    private static final int MOST = Edge.MOST, LEAST = Edge.LEAST;
    private static final long HALF_OF_SIXTY = 118264581564861424L;

    public static void main(String[] args) {
        judging();
        tables();
        lateOnes();
        chances();
        Due.end();
    }

    private static void judging() {
        Edge.of(7, "1 BEFORE: the month is before the THING was sold", ClaimEdgeTests::before);
        Edge.of(7, "2 TWICE: of the same THING, PART and month", ClaimEdgeTests::twice);
        Edge.of(7, "2 TWICE: a CLAIM that was let", ClaimEdgeTests::twiceOfLetOnes);
        Edge.of(7, "3 OUT: it is not PROMISED then", ClaimEdgeTests::out);
        Edge.of(7, "4 AGAIN: one of the g months ahead of it", ClaimEdgeTests::againByMonths);
        Edge.of(7, "4 AGAIN: a CLAIM let of the same THING and PART", ClaimEdgeTests::againOfTheSame);
        Edge.of(7, "JUDGED as they come, the first of", ClaimEdgeTests::judgedByTheFirst);
        Edge.of(7, "Its number is how many came before", ClaimEdgeTests::numbersOfClaims);
        Edge.of(7, "BAD: months 0 .. 300", ClaimEdgeTests::monthsOfClaims);
        Edge.of(7, "BAD: told before it failed, too", ClaimEdgeTests::toldBeforeItFailed);
        Edge.of(7, "BAD: a THING that is not there", ClaimEdgeTests::claimOfNoThing);
        Edge.of(7, "BAD: by a PART (0 .. 9)", ClaimEdgeTests::claimOfNoPart);
        Edge.of(7, "BAD: it costs so much (0 .. 10000)", ClaimEdgeTests::costsOfClaims);
        Edge.of(7, "FULL: 100.", ClaimEdgeTests::fullOfClaims);
        Edge.of(7, "Refused, the first of: BAD, FULL", ClaimEdgeTests::badAheadOfFull);

        Edge.of(8, "Of a CLAIM: 0 THING to 6 DELAY", ClaimEdgeTests::aboutEnds);
        Edge.of(8, "DELAY: the month told less that in which it failed", ClaimEdgeTests::aboutDelay);
        Edge.of(8, "NONE: not so many.", ClaimEdgeTests::aboutNotSoMany);
        Edge.of(8, "BAD.", ClaimEdgeTests::aboutBad);
    }

    private static void tables() {
        Edge.of(9, "told by a month: in it or before", ClaimEdgeTests::tableToldBy);
        Edge.of(9, "THINGS sold in s failed at age a", ClaimEdgeTests::tableBySaleAndAge);
        Edge.of(9, "how many LET CLAIMS", ClaimEdgeTests::tableOfLetOnes);
        Edge.of(9, "BAD.", ClaimEdgeTests::tableBad);

        Edge.of(10, "sold and a is no later than the month", ClaimEdgeTests::exposedByThen);
        Edge.of(10, "and which are PROMISED then", ClaimEdgeTests::exposedAndPromised);
        Edge.of(10, "How many THINGS: none, and all", ClaimEdgeTests::exposedNoneAndAll);
        Edge.of(10, "BAD.", ClaimEdgeTests::exposedBad);

        Edge.of(11, "a fraction in lowest terms", ClaimEdgeTests::rateInLowestTerms);
        Edge.of(11, "LET CLAIMS told by the month with that age", ClaimEdgeTests::rateToldBy);
        Edge.of(11, "NO: none is EXPOSED.", ClaimEdgeTests::rateOfNone);
        Edge.of(11, "BAD.", ClaimEdgeTests::rateBad);
    }

    private static void lateOnes() {
        Edge.of(12, "failed 11 months ahead of t or earlier", ClaimEdgeTests::delaysOldEnough);
        Edge.of(12, "have a delay d (0 .. 11)", ClaimEdgeTests::delaysLeastAndMost);
        Edge.of(12, "How many LET CLAIMS", ClaimEdgeTests::delaysOfLetOnes);
        Edge.of(12, "BAD: t (0 .. 300), d (0 .. 11)", ClaimEdgeTests::delaysBad);

        Edge.of(13, "c, if t less f is 11 or more", ClaimEdgeTests::undoneLongAgo);
        Edge.of(13, "c LET CLAIMS told by t", ClaimEdgeTests::undoneToldBy);
        Edge.of(13, "d from 0 to t less f", ClaimEdgeTests::undoneSum);
        Edge.of(13, "cut", ClaimEdgeTests::undoneCut);
        Edge.of(13, "N all n(d) together", ClaimEdgeTests::undoneOfNoOldLateOnes);
        Edge.of(13, "NONE, if that sum is 0", ClaimEdgeTests::undoneNone);
        Edge.of(13, "BAD: also f behind t", ClaimEdgeTests::undoneBehind);
        Edge.of(13, "BAD: f and t are months", ClaimEdgeTests::undoneBad);
    }

    private static void chances() {
        Edge.of(14, "those with k or more of the K", ClaimEdgeTests::chanceOfKOrMore);
        Edge.of(14, "none of the K, all of the K", ClaimEdgeTests::chanceOfNoneAndAll);
        Edge.of(14, "above and below, in lowest terms", ClaimEdgeTests::chanceInLowestTerms);
        Edge.of(14, "THINGS have a LET CLAIM for a PART", ClaimEdgeTests::chanceCountsThings);
        Edge.of(14, "told by a month", ClaimEdgeTests::chanceToldBy);
        Edge.of(14, "M is 60 at most", ClaimEdgeTests::chanceOfSixty);
        Edge.of(14, "NO: -3: no THING of it.", ClaimEdgeTests::chanceOfEmptyBatch);
        Edge.of(14, "BAD: -2", ClaimEdgeTests::chanceBad);

        Edge.of(15, "The BATCH with the least THE CHANCE", ClaimEdgeTests::oddestOfAll);
        Edge.of(15, "by a month", ClaimEdgeTests::oddestToldBy);
        Edge.of(15, "held exactly", ClaimEdgeTests::oddestExactly);
        Edge.of(15, "of like ones the least number", ClaimEdgeTests::oddestOfLikeOnes);
        Edge.of(15, "A BATCH without THINGS has no CHANCE", ClaimEdgeTests::oddestWithEmptyBatches);
        Edge.of(15, "NONE: no THINGS.", ClaimEdgeTests::oddestOfNone);
        Edge.of(15, "BAD.", ClaimEdgeTests::oddestBad);
    }

    private static void is(long got, long want) {
        Edge.is(got, want);
    }

    // ---- promise 7: claim

    private static void before() {
        UnderPromise x = new UnderPromise();
        x.thing(0, 10, 0, 0);
        x.thing(0, 119, 0, 0);
        x.thing(0, 0, 0, 0);
        is(x.claim(0, 0, 9, 9, 0), 1);
        is(x.claim(0, 0, 0, 300, 0), 1);
        is(x.claim(0, 0, 10, 10, 0), 0);
        is(x.claim(1, 0, 118, 118, 0), 1);
        is(x.claim(1, 0, 119, 119, 0), 0);
        is(x.claim(2, 0, 0, 0, 0), 0);
    }

    private static void twice() {
        UnderPromise x = Edge.withThings(2);
        x.again(0);
        is(x.claim(0, 3, 20, 20, 10), 0);
        is(x.claim(0, 3, 20, 20, 10), 2);
        is(x.claim(0, 3, 20, 300, 0), 2);
        is(x.claim(1, 3, 20, 20, 10), 0);
        is(x.claim(0, 4, 20, 20, 10), 0);
        is(x.claim(0, 3, 19, 20, 10), 0);
        is(x.claim(0, 3, 21, 21, 10), 0);
    }

    private static void twiceOfLetOnes() {
        UnderPromise x = Edge.withThings(1);
        is(x.claim(0, 0, 10, 10, 0), 0);
        is(x.claim(0, 0, 11, 11, 0), 4);
        is(x.claim(0, 0, 11, 11, 0), 4);
        is(x.claim(0, 0, 24, 24, 0), 3);
        is(x.claim(0, 0, 24, 24, 0), 3);
        x.promise(0, 120, 600000);
        is(x.claim(0, 0, 24, 24, 0), 0);
        is(x.claim(0, 0, 24, 24, 0), 2);
        is(x.claim(0, 0, 24, 24, 0), 2);
    }

    private static void out() {
        UnderPromise x = new UnderPromise();
        x.thing(0, 10, 0, 0);
        x.thing(0, 10, 5000, 0);
        x.thing(0, 10, 0, 1);
        x.promise(1, 0, 600000);
        is(x.claim(0, 0, 33, 33, 0), 0);
        is(x.claim(0, 1, 34, 34, 0), 3);
        is(x.claim(0, 1, 300, 300, 0), 3);
        is(x.claim(1, 0, 21, 300, 0), 0);
        is(x.claim(1, 1, 22, 22, 0), 3);
        is(x.claim(2, 0, 10, 10, 0), 3);
    }

    private static void againByMonths() {
        UnderPromise x = Edge.withThings(10);
        for (int g = 0; g <= 9; g++) {
            x.again(g);
            is(x.claim(g, 0, 11, 11, 0), 0);
            is(x.claim(g, 0, 11 + g + 1, 23, 0), 0);
            is(x.claim(g, 0, 11 + g, 23, 0), g == 0 ? 2 : 4);
            is(x.claim(g, 0, 12, 23, 0), g == 0 ? 2 : 4);
            is(x.claim(g, 0, 10, 10, 0), 0);
        }
    }

    private static void againOfTheSame() {
        UnderPromise x = Edge.withThings(2);
        is(x.claim(0, 3, 10, 10, 0), 0);
        is(x.claim(1, 3, 11, 11, 0), 0);
        is(x.claim(0, 4, 11, 11, 0), 0);
        is(x.claim(0, 3, 11, 11, 0), 4);
        is(x.claim(0, 3, 12, 12, 0), 0);
        is(x.claim(0, 3, 24, 24, 0), 3);
        x.promise(0, 120, 600000);
        is(x.claim(0, 3, 25, 25, 0), 0);
    }

    private static void judgedByTheFirst() {
        UnderPromise x = new UnderPromise();
        x.thing(0, 10, 0, 0);
        x.again(12);
        is(x.claim(0, 0, 15, 15, 0), 0);
        is(x.claim(0, 0, 12, 12, 0), 0);
        is(x.claim(0, 0, 15, 15, 0), 2);
        x.promise(0, 1, 1);
        is(x.claim(0, 0, 15, 15, 0), 2);
        is(x.claim(0, 0, 16, 16, 0), 3);
        is(x.claim(0, 0, 9, 9, 0), 1);
    }

    private static void numbersOfClaims() {
        UnderPromise x = Edge.withThings(1);
        int[] judged = {0, 2, 4, 3};
        int[] months = {10, 10, 11, 24};
        for (int i = 0; i < 4; i++) {
            is(x.claim(0, 0, months[i], 299, 10001), BAD);
            is(x.claim(0, 0, months[i], 300, i), judged[i]);
            is(x.count(1), i + 1);
            is(x.about(i, 4), i);
            is(x.about(i, 5), judged[i]);
        }
        is(x.about(0, 2), 10);
        is(x.about(3, 2), 24);
    }

    private static void monthsOfClaims() {
        UnderPromise x = Edge.withThings(1);
        is(x.claim(0, 0, 0, 0, 0), 0);
        is(x.claim(0, 0, 300, 300, 0), 3);
        is(x.claim(0, 1, 0, 300, 0), 0);
        Edge.Watch watch = new Edge.Watch(x);
        for (int month : new int[] {-1, LEAST}) {
            watch.bad(x.claim(0, 2, month, 5, 0));
            watch.bad(x.claim(0, 2, month, month, 0));
        }
        for (int month : new int[] {301, MOST}) {
            watch.bad(x.claim(0, 2, 5, month, 0));
            watch.bad(x.claim(0, 2, month, month, 0));
            watch.bad(x.claim(0, 2, month, 5, 0));
        }
    }

    private static void toldBeforeItFailed() {
        UnderPromise x = Edge.withThings(1);
        is(x.claim(0, 0, 5, 5, 0), 0);
        is(x.claim(0, 1, 5, 6, 0), 0);
        Edge.Watch watch = new Edge.Watch(x);
        watch.bad(x.claim(0, 2, 5, 4, 0));
        watch.bad(x.claim(0, 2, 300, 0, 0));
        watch.bad(x.claim(0, 2, 1, 0, 0));
        watch.bad(x.claim(0, 2, 0, -1, 0));
        watch.bad(x.claim(0, 2, 5, LEAST, 0));
    }

    private static void claimOfNoThing() {
        UnderPromise x = Edge.withThings(2);
        is(x.claim(1, 0, 0, 0, 0), 0);
        Edge.Watch watch = new Edge.Watch(x);
        for (int thing : new int[] {-1, 2, 59, 60, MOST, LEAST}) watch.bad(x.claim(thing, 0, 5, 5, 0));
        UnderPromise full = Edge.withThings(60);
        is(full.claim(59, 0, 0, 0, 0), 0);
        is(full.claim(60, 0, 0, 0, 0), BAD);
    }

    private static void claimOfNoPart() {
        UnderPromise x = Edge.withThings(1);
        is(x.claim(0, 0, 5, 5, 0), 0);
        is(x.claim(0, 9, 5, 5, 0), 0);
        Edge.Watch watch = new Edge.Watch(x);
        for (int part : new int[] {-1, 10, MOST, LEAST}) watch.bad(x.claim(0, part, 5, 5, 0));
    }

    private static void costsOfClaims() {
        UnderPromise x = Edge.withThings(1);
        is(x.claim(0, 0, 5, 5, 0), 0);
        is(x.claim(0, 1, 5, 5, 10000), 0);
        is(x.left(), 10000);
        Edge.Watch watch = new Edge.Watch(x);
        for (int cost : new int[] {-1, 10001, MOST, LEAST}) watch.bad(x.claim(0, 2, 5, 5, cost));
    }

    private static void fullOfClaims() {
        UnderPromise x = Edge.withThings(10);
        for (int i = 0; i < 99; i++) is(x.claim(i / 10, i % 10, 0, 0, 1), 0);
        is(x.claim(9, 8, 300, 300, 1), 3);
        Edge.Watch watch = new Edge.Watch(x);
        watch.full(x.claim(9, 9, 0, 0, 1));
        watch.full(x.claim(0, 0, 0, 0, 1));
        watch.full(x.claim(0, 0, 300, 300, 1));
        is(x.count(1), 100);
        is(x.count(2), 99);
        is(x.about(99, 2), 300);
        is(x.about(100, 2), NONE);
    }

    private static void badAheadOfFull() {
        UnderPromise x = Edge.withAllClaims(1);
        is(x.count(2), 100);
        Edge.Watch watch = new Edge.Watch(x);
        watch.bad(x.claim(10, 0, 5, 5, 0));
        watch.bad(x.claim(0, 10, 5, 5, 0));
        watch.bad(x.claim(0, 0, 301, 301, 0));
        watch.bad(x.claim(0, 0, 5, 4, 0));
        watch.bad(x.claim(0, 0, 5, 5, 10001));
        watch.full(x.claim(0, 0, 5, 5, 0));
    }

    // ---- promise 8: about

    private static void aboutEnds() {
        UnderPromise x = Edge.withThings(60);
        x.claim(0, 0, 0, 0, 0);
        x.claim(59, 9, 300, 300, 10000);
        int[][] due = {{0, 0, 0, 0, 0, 0, 0}, {59, 9, 300, 300, 10000, 3, 0}};
        for (int claim = 0; claim < 2; claim++) {
            for (int what = 0; what <= 6; what++) is(x.about(claim, what), due[claim][what]);
        }
    }

    private static void aboutDelay() {
        UnderPromise x = Edge.withThings(1);
        int[][] monthsAndTold = {{0, 0}, {0, 1}, {0, 300}, {1, 300}, {299, 300}, {300, 300}};
        for (int i = 0; i < monthsAndTold.length; i++) {
            x.claim(0, 0, monthsAndTold[i][0], monthsAndTold[i][1], 0);
            is(x.about(i, 6), monthsAndTold[i][1] - monthsAndTold[i][0]);
        }
    }

    private static void aboutNotSoMany() {
        UnderPromise x = Edge.withThings(1);
        Edge.noMore(x, 0);
        x.claim(0, 0, 0, 0, 0);
        x.claim(0, 1, 0, 0, 0);
        is(x.about(1, 1), 1);
        for (int claim : new int[] {2, 3, 99, 100, MOST}) Edge.noMore(x, claim);
        UnderPromise full = Edge.withAllClaims(0);
        is(full.about(99, 0), 9);
        is(full.about(99, 1), 9);
        Edge.noMore(full, 100);
        Edge.noMore(full, MOST);
    }

    private static void aboutBad() {
        UnderPromise x = Edge.withThings(1);
        x.claim(0, 0, 0, 0, 0);
        Edge.Watch watch = new Edge.Watch(x);
        for (int claim : new int[] {-1, -2, LEAST}) watch.bad(x.about(claim, 0));
        for (int what : new int[] {-1, 7, MOST, LEAST}) {
            watch.bad(x.about(0, what));
            watch.bad(x.about(1, what));
            watch.bad(x.about(MOST, what));
        }
    }

    // ---- promise 9: table

    private static void tableToldBy() {
        UnderPromise x = Edge.withThings(1);
        x.claim(0, 0, 5, 5, 0);
        x.claim(0, 1, 5, 7, 0);
        x.claim(0, 2, 5, 300, 0);
        int[] by = {0, 4, 5, 6, 7, 8, 299, 300};
        int[] due = {0, 0, 1, 1, 2, 2, 2, 3};
        for (int i = 0; i < by.length; i++) is(x.table(0, 5, by[i]), due[i]);
    }

    private static void tableBySaleAndAge() {
        UnderPromise x = new UnderPromise();
        x.promise(0, 120, 600000);
        x.thing(0, 0, 0, 0);
        x.thing(0, 1, 0, 0);
        x.thing(0, 119, 0, 0);
        x.claim(0, 0, 1, 1, 0);
        x.claim(1, 0, 1, 1, 0);
        x.claim(0, 1, 119, 119, 0);
        x.claim(2, 0, 119, 119, 0);
        x.claim(2, 1, 238, 238, 0);
        is(x.table(0, 1, 300), 1);
        is(x.table(1, 0, 300), 1);
        is(x.table(0, 0, 300), 0);
        is(x.table(1, 1, 300), 0);
        is(x.table(0, 119, 300), 1);
        is(x.table(119, 0, 300), 1);
        is(x.table(119, 119, 300), 1);
        is(x.table(118, 1, 300), 0);
    }

    private static void tableOfLetOnes() {
        UnderPromise x = new UnderPromise();
        x.thing(0, 10, 0, 0);
        x.claim(0, 0, 20, 20, 0);
        x.claim(0, 0, 20, 20, 0);
        x.claim(0, 0, 21, 21, 0);
        x.claim(0, 0, 34, 34, 0);
        x.claim(0, 0, 9, 9, 0);
        is(x.count(2), 1);
        is(x.table(10, 10, 300), 1);
        is(x.table(10, 11, 300), 0);
        is(x.table(10, 24, 300), 0);
        is(x.table(9, 0, 300), 0);
        is(x.table(10, 0, 300), 0);
    }

    private static void tableBad() {
        UnderPromise x = Edge.withThings(1);
        x.claim(0, 0, 0, 0, 0);
        is(x.table(0, 0, 0), 1);
        is(x.table(119, 300, 300), 0);
        Edge.Watch watch = new Edge.Watch(x);
        for (int s : new int[] {-1, 120, MOST, LEAST}) watch.bad(x.table(s, 0, 0));
        for (int a : new int[] {-1, 301, MOST, LEAST}) watch.bad(x.table(0, a, 0));
        for (int by : new int[] {-1, 301, MOST, LEAST}) watch.bad(x.table(0, 0, by));
    }

    // ---- promise 10: exposed

    private static void exposedByThen() {
        UnderPromise x = new UnderPromise();
        x.promise(0, 120, 600000);
        x.thing(0, 119, 0, 0);
        x.thing(0, 10, 0, 0);
        is(x.exposed(0, 9), 0);
        is(x.exposed(0, 10), 1);
        is(x.exposed(5, 14), 0);
        is(x.exposed(5, 15), 1);
        is(x.exposed(0, 118), 1);
        is(x.exposed(0, 119), 2);
        is(x.exposed(119, 237), 1);
        is(x.exposed(119, 238), 2);
    }

    private static void exposedAndPromised() {
        UnderPromise x = new UnderPromise();
        x.promise(0, 6, 1000);
        x.thing(0, 10, 0, 0);
        x.thing(0, 10, 250, 0);
        is(x.exposed(3, 300), 2);
        is(x.exposed(4, 300), 1);
        is(x.exposed(5, 300), 1);
        is(x.exposed(6, 300), 0);
        is(x.exposed(300, 300), 0);
        x.promise(0, 7, 1001);
        is(x.exposed(4, 300), 2);
        is(x.exposed(6, 300), 1);
        x.promise(0, 0, 1000);
        is(x.exposed(0, 300), 0);
    }

    private static void exposedNoneAndAll() {
        UnderPromise x = new UnderPromise();
        is(x.exposed(0, 0), 0);
        is(x.exposed(0, 300), 0);
        UnderPromise full = Edge.withThings(60);
        is(full.exposed(0, 0), 60);
        is(full.exposed(23, 23), 60);
        is(full.exposed(23, 22), 0);
    }

    private static void exposedBad() {
        UnderPromise x = Edge.withThings(1);
        is(x.exposed(0, 0), 1);
        is(x.exposed(300, 300), 0);
        Edge.Watch watch = new Edge.Watch(x);
        for (int a : new int[] {-1, 301, MOST, LEAST}) watch.bad(x.exposed(a, 300));
        for (int by : new int[] {-1, 301, MOST, LEAST}) watch.bad(x.exposed(0, by));
    }

    // ---- promise 11: rate

    private static void rateIs(UnderPromise x, int a, int by, int above, int below) {
        is(x.rate(a, by, 0), above);
        is(x.rate(a, by, 1), below);
    }

    private static void rateInLowestTerms() {
        UnderPromise x = Edge.withThings(60);
        int[][] due = {{0, 1}, {1, 60}, {1, 30}, {1, 20}, {1, 15}, {1, 12}, {1, 10}, {7, 60}};
        for (int[] fraction : due) {
            rateIs(x, 0, 0, fraction[0], fraction[1]);
            x.claim(x.count(1), 0, 0, 0, 0);
        }
        for (int i = 8; i < 60; i++) x.claim(i, 0, 0, 0, 0);
        rateIs(x, 0, 0, 1, 1);
        x.claim(0, 1, 0, 0, 0);
        rateIs(x, 0, 0, 61, 60);
        for (int i = 1; i < 40; i++) x.claim(i, 1, 0, 0, 0);
        rateIs(x, 0, 0, 5, 3);
    }

    private static void rateToldBy() {
        UnderPromise x = new UnderPromise();
        x.thing(0, 10, 0, 0);
        x.thing(0, 11, 0, 0);
        x.claim(0, 0, 12, 14, 0);
        x.claim(1, 0, 13, 13, 0);
        x.claim(1, 0, 13, 13, 0);
        x.claim(1, 1, 14, 14, 0);
        rateIs(x, 2, 12, 0, 1);
        rateIs(x, 2, 13, 1, 2);
        rateIs(x, 2, 14, 1, 1);
        rateIs(x, 3, 13, 0, 1);
        rateIs(x, 3, 14, 1, 2);
    }

    private static void rateOfNone() {
        UnderPromise x = new UnderPromise();
        Edge.Watch empty = new Edge.Watch(x);
        empty.no(x.rate(0, 300, 0));
        x.thing(0, 10, 0, 0);
        x.claim(0, 0, 10, 10, 0);
        Edge.Watch watch = new Edge.Watch(x);
        for (int what = 0; what <= 1; what++) {
            watch.no(x.rate(0, 9, what));
            is(x.rate(0, 10, what), 1);
            watch.no(x.rate(24, 300, what));
            is(x.rate(23, 300, what), what);
            watch.no(x.rate(300, 300, what));
        }
        x.promise(0, 0, 0);
        watch = new Edge.Watch(x);
        watch.no(x.rate(0, 10, 0));
    }

    private static void rateBad() {
        UnderPromise x = Edge.withThings(1);
        is(x.rate(0, 0, 0), 0);
        is(x.rate(0, 300, 1), 1);
        is(x.rate(300, 300, 1), NO);
        Edge.Watch watch = new Edge.Watch(x);
        for (int a : new int[] {-1, 301, MOST, LEAST}) watch.bad(x.rate(a, 300, 0));
        for (int by : new int[] {-1, 301, MOST, LEAST}) watch.bad(x.rate(0, by, 0));
        for (int what : new int[] {-1, 2, MOST, LEAST}) {
            watch.bad(x.rate(0, 0, what));
            watch.bad(x.rate(300, 300, what));
        }
    }

    // ---- promises 12 and 13: delays, undone

    private static void delaysOldEnough() {
        UnderPromise x = Edge.withThings(1);
        x.claim(0, 0, 0, 0, 0);
        x.claim(0, 1, 20, 23, 0);
        is(x.delays(10, 0), 0);
        is(x.delays(11, 0), 1);
        is(x.delays(0, 0), 0);
        is(x.delays(30, 3), 0);
        is(x.delays(31, 3), 1);
        is(x.delays(32, 3), 1);
        is(x.delays(300, 3), 1);
    }

    private static void delaysLeastAndMost() {
        UnderPromise x = Edge.withThings(2);
        for (int part = 0; part < 10; part++) x.claim(0, part, 5, 5 + part, 0);
        for (int part = 0; part < 5; part++) x.claim(1, part, 5, 5 + 10 + part, 0);
        for (int d = 0; d < 12; d++) {
            is(x.delays(15, d), 0);
            is(x.delays(16, d), 1);
            is(x.delays(300, d), 1);
        }
    }

    private static void delaysOfLetOnes() {
        UnderPromise x = new UnderPromise();
        x.thing(0, 10, 0, 0);
        x.claim(0, 0, 20, 22, 0);
        x.claim(0, 0, 20, 22, 0);
        x.claim(0, 0, 21, 23, 0);
        x.claim(0, 0, 34, 36, 0);
        x.claim(0, 0, 9, 11, 0);
        is(x.delays(300, 2), 1);
    }

    private static void delaysBad() {
        UnderPromise x = Edge.withThings(1);
        x.claim(0, 0, 0, 0, 0);
        is(x.delays(0, 0), 0);
        is(x.delays(300, 0), 1);
        is(x.delays(300, 11), 0);
        Edge.Watch watch = new Edge.Watch(x);
        for (int t : new int[] {-1, 301, MOST, LEAST}) watch.bad(x.delays(t, 0));
        for (int d : new int[] {-1, 12, MOST, LEAST}) watch.bad(x.delays(300, d));
    }

    /** Of month 0: n(0) is 1, n(10) is 1, n(11) is 2. Of month 50: 3 came at once. */
    private static UnderPromise withLateOnes() {
        UnderPromise x = Edge.withThings(1);
        x.promise(0, 120, 600000);
        int[] delays = {0, 10, 11, 11};
        for (int part = 0; part < 4; part++) x.claim(0, part, 0, delays[part], 0);
        for (int part = 0; part < 3; part++) x.claim(0, part, 50, 50, 0);
        return x;
    }

    private static void undoneLongAgo() {
        UnderPromise x = withLateOnes();
        is(x.undone(50, 60), 6);
        is(x.undone(50, 61), 3);
        is(x.undone(50, 62), 3);
        is(x.undone(50, 300), 3);
        is(x.undone(0, 10), NONE);
        is(x.undone(0, 11), 4);
        is(x.undone(0, 300), 4);
        is(new UnderPromise().undone(0, 11), 0);
        is(new UnderPromise().undone(289, 300), 0);
    }

    private static void undoneToldBy() {
        UnderPromise x = withLateOnes();
        x.claim(0, 3, 50, 52, 0);
        x.claim(0, 4, 50, 70, 0);
        is(x.undone(50, 51), 12);
        is(x.undone(50, 52), 16);
        is(x.undone(50, 69), 4);
        is(x.undone(50, 70), 5);
        is(x.undone(49, 70), 0);
        is(x.undone(51, 70), 0);
    }

    private static void undoneSum() {
        UnderPromise x = withLateOnes();
        is(x.undone(50, 50), 12);
        is(x.undone(50, 59), 12);
        is(x.undone(50, 60), 6);
        is(x.undone(49, 58), 0);
    }

    private static void undoneCut() {
        UnderPromise x = Edge.withThings(1);
        for (int part = 0; part < 3; part++) x.claim(0, part, 0, 0, 0);
        for (int part = 3; part < 5; part++) x.claim(0, part, 0, 5, 0);
        for (int c = 1; c <= 3; c++) {
            x.claim(0, c, 20, 20, 0);
            is(x.undone(20, 20), c * 5 / 3);
            is(x.undone(20, 25), c);
        }
    }

    private static void undoneOfNoOldLateOnes() {
        UnderPromise x = Edge.withThings(1);
        x.claim(0, 0, 0, 0, 0);
        x.claim(0, 1, 0, 11, 0);
        x.claim(0, 2, 0, 12, 0);
        x.claim(0, 3, 10, 10, 0);
        x.claim(0, 4, 20, 20, 0);
        is(x.undone(20, 20), 2);
        is(x.undone(10, 20), 2);
        is(x.undone(10, 21), 1);
        is(x.undone(20, 21), 1);
        is(x.undone(0, 20), 3);
    }

    private static void undoneNone() {
        UnderPromise x = Edge.withThings(1);
        is(x.undone(0, 0), NONE);
        is(x.undone(290, 300), NONE);
        x.claim(0, 0, 0, 5, 0);
        x.claim(0, 1, 15, 15, 0);
        is(x.undone(0, 10), NONE);
        is(x.undone(15, 19), NONE);
        is(x.undone(16, 19), NONE);
        is(x.undone(15, 20), 1);
        is(x.undone(16, 21), 0);
        UnderPromise late = Edge.withThings(1);
        late.claim(0, 0, 0, 12, 0);
        late.claim(0, 1, 20, 20, 0);
        is(late.undone(20, 30), NONE);
        is(late.undone(20, 31), 1);
    }

    private static void undoneBehind() {
        UnderPromise x = withLateOnes();
        is(x.undone(50, 50), 12);
        Edge.Watch watch = new Edge.Watch(x);
        watch.bad(x.undone(51, 50));
        watch.bad(x.undone(300, 0));
        watch.bad(x.undone(300, 299));
        watch.bad(new UnderPromise().undone(1, 0));
        is(new UnderPromise().undone(0, 0), NONE);
    }

    private static void undoneBad() {
        UnderPromise x = withLateOnes();
        is(x.undone(0, 300), 4);
        is(x.undone(300, 300), 0);
        Edge.Watch watch = new Edge.Watch(x);
        for (int f : new int[] {-1, 301, MOST, LEAST}) watch.bad(x.undone(f, 300));
        for (int t : new int[] {-1, 301, MOST, LEAST}) {
            watch.bad(x.undone(0, t));
            watch.bad(x.undone(t, t));
        }
        watch.bad(x.undone(LEAST, MOST));
        watch.bad(x.undone(-2, -1));
    }

    // ---- promise 14: chance

    private static void chanceIs(UnderPromise x, int batch, int by, long above, long below) {
        is(x.chance(batch, 0, by, 0), above);
        is(x.chance(batch, 0, by, 1), below);
    }

    private static void chanceOfKOrMore() {
        chanceIs(Edge.withHits(2, 0, 3, 2), 0, 300, 1, 1);
        chanceIs(Edge.withHits(2, 1, 3, 1), 0, 300, 7, 10);
        chanceIs(Edge.withHits(2, 2, 3, 0), 0, 300, 1, 10);
        chanceIs(Edge.withHits(2, 2, 3, 1), 0, 300, 3, 10);
        chanceIs(Edge.withHits(3, 1, 3, 2), 0, 300, 19, 20);
        chanceIs(Edge.withHits(3, 2, 3, 1), 0, 300, 1, 2);
        chanceIs(Edge.withHits(3, 3, 3, 0), 0, 300, 1, 20);
    }

    private static void chanceOfNoneAndAll() {
        chanceIs(Edge.withHits(1, 0), 0, 0, 1, 1);
        chanceIs(Edge.withHits(1, 1), 0, 0, 1, 1);
        chanceIs(Edge.withHits(60, 0), 0, 0, 1, 1);
        chanceIs(Edge.withHits(60, 60), 0, 0, 1, 1);
        chanceIs(Edge.withHits(59, 59, 1, 0), 0, 0, 1, 60);
        chanceIs(Edge.withHits(59, 58, 1, 1), 0, 0, 1, 1);
        chanceIs(Edge.withHits(59, 59, 1, 1), 0, 0, 1, 1);
        chanceIs(Edge.withHits(59, 0, 1, 1), 1, 0, 1, 60);
    }

    private static void chanceInLowestTerms() {
        chanceIs(Edge.withHits(2, 2, 2, 1), 0, 0, 1, 2);
        chanceIs(Edge.withHits(4, 2, 6, 1), 0, 0, 1, 3);
        chanceIs(Edge.withHits(10, 1, 50, 3), 0, 0, 51467, 97527);
    }

    private static void chanceCountsThings() {
        UnderPromise x = new UnderPromise();
        for (int i = 0; i < 4; i++) x.thing(i / 2, 0, 0, 0);
        x.claim(0, 0, 5, 5, 0);
        x.claim(0, 0, 5, 5, 0);
        x.claim(0, 0, 6, 6, 0);
        x.claim(0, 0, 7, 7, 0);
        x.claim(1, 0, 24, 24, 0);
        x.claim(1, 1, 5, 5, 0);
        x.claim(2, 9, 5, 5, 0);
        chanceIs(x, 0, 300, 1, 2);
        chanceIs(x, 1, 300, 1, 1);
        is(x.chance(1, 9, 300, 1), 2);
        is(x.chance(0, 9, 300, 1), 1);
    }

    private static void chanceToldBy() {
        UnderPromise x = new UnderPromise();
        for (int i = 0; i < 4; i++) x.thing(i / 2, 119, 0, 0);
        x.claim(0, 0, 120, 130, 0);
        x.claim(1, 0, 120, 300, 0);
        chanceIs(x, 0, 0, 1, 1);
        chanceIs(x, 0, 129, 1, 1);
        chanceIs(x, 0, 130, 1, 2);
        chanceIs(x, 0, 299, 1, 2);
        chanceIs(x, 0, 300, 1, 6);
    }

    private static void chanceOfSixty() {
        chanceIs(Edge.withHits(30, 30, 30, 0), 0, 0, 1, HALF_OF_SIXTY);
        chanceIs(Edge.withHits(30, 0, 30, 30), 1, 0, 1, HALF_OF_SIXTY);
        chanceIs(Edge.withHits(30, 1, 30, 29), 0, 0, HALF_OF_SIXTY - 1, HALF_OF_SIXTY);
        chanceIs(Edge.withHits(30, 29, 30, 1), 0, 0, 1, HALF_OF_SIXTY / 901);
        int[][] sizesAndHits = {{30, 15, 30, 15}, {31, 17, 29, 12}, {20, 11, 20, 3, 20, 6}, {45, 33, 15, 7}, {29, 29, 31, 30}};
        for (int[] w : sizesAndHits) {
            UnderPromise x = Edge.withHits(w);
            for (int batch = 0; 2 * batch < w.length; batch++) {
                int hits = 0;
                for (int i = 1; i < w.length; i += 2) hits += w[i];
                BigInteger above = waysOfKOrMore(w[2 * batch], w[2 * batch + 1], hits);
                BigInteger below = ways(60, w[2 * batch]), common = above.gcd(below);
                chanceIs(x, batch, 0, above.divide(common).longValueExact(), below.divide(common).longValueExact());
            }
        }
    }

    private static BigInteger waysOfKOrMore(int n, int k, int hits) {
        BigInteger sum = BigInteger.ZERO;
        for (int i = k; i <= n; i++) sum = sum.add(ways(hits, i).multiply(ways(60 - hits, n - i)));
        return sum;
    }

    private static BigInteger ways(int all, int some) {
        BigInteger ways = some < 0 || some > all ? BigInteger.ZERO : BigInteger.ONE;
        for (int i = 1; i <= some && i <= all; i++) {
            ways = ways.multiply(BigInteger.valueOf(all - some + i)).divide(BigInteger.valueOf(i));
        }
        return ways;
    }

    private static void chanceOfEmptyBatch() {
        UnderPromise x = new UnderPromise();
        for (int batch = 0; batch < 8; batch++) is(x.chance(batch, 0, 0, 0), NO);
        x.thing(3, 119, 0, 0);
        Edge.Watch watch = new Edge.Watch(x);
        for (int batch = 0; batch < 8; batch++) {
            for (int what = 0; what <= 1; what++) {
                if (batch == 3) is(x.chance(batch, 9, 0, what), 1);
                else watch.no(x.chance(batch, 9, 0, what));
            }
        }
    }

    private static void chanceBad() {
        UnderPromise x = new UnderPromise();
        x.thing(0, 0, 0, 0);
        x.thing(7, 0, 0, 0);
        is(x.chance(0, 0, 0, 0), 1);
        is(x.chance(7, 9, 300, 1), 1);
        Edge.Watch watch = new Edge.Watch(x);
        for (int batch : new int[] {-1, 8, MOST, LEAST}) watch.bad(x.chance(batch, 0, 0, 0));
        for (int batch : new int[] {0, 1}) {
            for (int part : new int[] {-1, 10, MOST, LEAST}) watch.bad(x.chance(batch, part, 0, 0));
            for (int by : new int[] {-1, 301, MOST, LEAST}) watch.bad(x.chance(batch, 0, by, 0));
            for (int what : new int[] {-1, 2, MOST, LEAST}) watch.bad(x.chance(batch, 0, 0, what));
        }
    }

    // ---- promise 15: oddest

    private static void oddestOfAll() {
        for (int batch = 0; batch < 8; batch++) {
            int[] sizesAndHits = {3, 1, 3, 1, 3, 1, 3, 1, 3, 1, 3, 1, 3, 1, 3, 1};
            sizesAndHits[2 * batch + 1] = 2;
            is(Edge.withHits(sizesAndHits).oddest(0, 0), batch);
        }
        is(Edge.withHits(1, 1, 5, 4, 10, 3).oddest(0, 0), 1);
        is(Edge.withHits(2, 1, 20, 10, 10, 5).oddest(0, 0), 1);
    }

    private static void oddestToldBy() {
        UnderPromise x = new UnderPromise();
        for (int i = 0; i < 6; i++) x.thing(i / 2, 0, 0, 0);
        x.claim(2, 9, 5, 10, 0);
        x.claim(4, 9, 5, 20, 0);
        x.claim(5, 9, 5, 300, 0);
        is(x.oddest(9, 0), 0);
        is(x.oddest(9, 9), 0);
        is(x.oddest(9, 10), 1);
        is(x.oddest(9, 20), 1);
        is(x.oddest(9, 299), 1);
        is(x.oddest(9, 300), 2);
        is(x.oddest(0, 300), 0);
    }

    /** Chances whose products across leave a long, some that first differ in the seventh place, and some like 1/2 and 3/8. */
    private static void oddestExactly() {
        int[][] hits = {{25, 12, 21, 8, 4, 0}, {25, 10, 32, 22, 0, 0}, {28, 9, 31, 24, 1, 0}, {32, 26, 27, 13, 0, 0},
            {16, 8, 17, 7, 18, 1}, {28, 19, 20, 14, 11, 7}, {25, 4, 6, 1, 7, 1}, {23, 11, 21, 10, 1, 0},
            {19, 10, 21, 11, 5, 2}, {15, 12, 42, 32, 3, 1}, {17, 13, 40, 30, 3, 2},
            {4, 2, 1, 1, 3, 0}, {4, 2, 1, 1, 5, 0}, {1, 1, 4, 3, 5, 3}};
        int[] due = {0, 1, 1, 0, 0, 1, 1, 0, 0, 0, 0, 1, 1, 1};
        for (int i = 0; i < hits.length; i++) {
            int[] w = hits[i];
            int[] turned = {w[2], w[3], w[0], w[1], w[4], w[5]};
            is(Edge.withHits(w).oddest(0, 0), due[i]);
            is(Edge.withHits(turned).oddest(0, 0), 1 - due[i]);
        }
    }

    private static void oddestOfLikeOnes() {
        int[] none = {5, 0, 4, 0, 3, 0, 2, 0, 1, 0, 2, 0, 3, 0, 4, 0};
        is(Edge.withHits(none).oddest(0, 0), 0);
        none[0] = 0;
        is(Edge.withHits(none).oddest(0, 0), 1);
        is(Edge.withHits(4, 0, 4, 2, 4, 2).oddest(0, 0), 1);
        is(Edge.withHits(1, 0, 1, 1, 1, 1, 1, 1).oddest(0, 0), 1);
        int[][] like = {{25, 15, 23, 14, 12, 0}, {8, 1, 24, 2, 27, 0}, {8, 4, 52, 26, 0, 0}, {15, 15, 40, 39, 5, 4}};
        for (int[] w : like) {
            is(Edge.withHits(w).oddest(0, 0), 0);
            is(Edge.withHits(w[2], w[3], w[0], w[1], w[4], w[5]).oddest(0, 0), 0);
        }
    }

    private static void oddestWithEmptyBatches() {
        for (int batch = 0; batch < 8; batch++) {
            UnderPromise x = new UnderPromise();
            x.thing(batch, 0, 0, 0);
            is(x.oddest(0, 0), batch);
            x.claim(0, 0, 0, 0, 0);
            is(x.oddest(0, 0), batch);
        }
    }

    private static void oddestOfNone() {
        UnderPromise x = new UnderPromise();
        for (int part = 0; part < 10; part++) {
            is(x.oddest(part, 0), NONE);
            is(x.oddest(part, 300), NONE);
        }
        x.thing(8, 0, 0, 0);
        is(x.oddest(0, 0), NONE);
        x.thing(7, 119, 0, 0);
        is(x.oddest(0, 0), 7);
    }

    private static void oddestBad() {
        UnderPromise x = Edge.withThings(1);
        is(x.oddest(0, 0), 0);
        is(x.oddest(9, 300), 0);
        for (UnderPromise asked : new UnderPromise[] {x, new UnderPromise()}) {
            Edge.Watch watch = new Edge.Watch(asked);
            for (int part : new int[] {-1, 10, MOST, LEAST}) watch.bad(asked.oddest(part, 0));
            for (int by : new int[] {-1, 301, MOST, LEAST}) watch.bad(asked.oddest(0, by));
        }
    }
}

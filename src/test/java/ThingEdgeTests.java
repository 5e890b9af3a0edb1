/** Promises 1 to 6: each sentence of the document that names an edge has a test of its own. */
public final class ThingEdgeTests {
    private static final int NONE = UnderPromise.NONE, BAD = UnderPromise.BAD, NO = UnderPromise.NO;
    private static final int MOST = Edge.MOST, LEAST = Edge.LEAST;

    public static void main(String[] args) {
        Edge.of(1, "No THINGS", ThingEdgeTests::noThings);
        Edge.of(1, "no CLAIMS", ThingEdgeTests::noClaims);
        Edge.of(1, "PARTS without any above them", ThingEdgeTests::noPartAbove);
        Edge.of(1, "without MAKERS", ThingEdgeTests::noMakers);
        Edge.of(1, "A new object, ahead of which another one was filled", ThingEdgeTests::newBesideAFullOne);
        Edge.of(1, "so many months (24 at first)", ThingEdgeTests::monthsAtFirst);
        Edge.of(1, "and miles (60000 at first)", ThingEdgeTests::milesAtFirst);
        Edge.of(1, "g 1 at first", ThingEdgeTests::againAtFirst);

        Edge.of(2, "A THING: its number", ThingEdgeTests::numbersOfThings);
        Edge.of(2, "BAD: of a BATCH (0 .. 7)", ThingEdgeTests::batches);
        Edge.of(2, "BAD: sold in a month (0 .. 119)", ThingEdgeTests::monthsOfSale);
        Edge.of(2, "BAD: so many miles a month (0 .. 5000)", ThingEdgeTests::milesAMonth);
        Edge.of(2, "BAD: a LAND (0 .. 3)", ThingEdgeTests::lands);
        Edge.of(2, "FULL: 60.", ThingEdgeTests::fullOfThings);
        Edge.of(2, "Refused, the first of: BAD, FULL", ThingEdgeTests::badAheadOfFull);

        Edge.of(3, "A LAND's PROMISE: 1.", ThingEdgeTests::promiseOfOneLand);
        Edge.of(3, "BAD: so many months (0 .. 120)", ThingEdgeTests::promisedMonths);
        Edge.of(3, "BAD: and miles (0 .. 600000)", ThingEdgeTests::promisedMiles);
        Edge.of(3, "BAD: a LAND (0 .. 3)", ThingEdgeTests::promiseOfNoLand);
        Edge.of(3, "CLAIMS that were JUDGED stay so", ThingEdgeTests::judgedStaySo);

        Edge.of(4, "g: what it was", ThingEdgeTests::whatAgainWas);
        Edge.of(4, "BAD: g 0 .. 12", ThingEdgeTests::againOutOfRange);
        Edge.of(4, "g 0: no month is ahead", ThingEdgeTests::againOfNoMonths);
        Edge.of(4, "g 12: one of the twelve months ahead", ThingEdgeTests::againOfTwelveMonths);

        Edge.of(5, "not before it was sold", ThingEdgeTests::promisedFromItsSale);
        Edge.of(5, "m less its month is below the LAND's months", ThingEdgeTests::promisedByMonths);
        Edge.of(5, "that difference times its miles is below the LAND's miles", ThingEdgeTests::promisedByMiles);
        Edge.of(5, "BAD: in a month (0 .. 300)", ThingEdgeTests::promisedInNoMonth);
        Edge.of(5, "BAD: a THING that is not there", ThingEdgeTests::promisedOfNoThing);

        Edge.of(6, "the last one in which it is PROMISED", ThingEdgeTests::lastAgreesWithPromised);
        Edge.of(6, "the last one, by the months alone", ThingEdgeTests::lastByMonths);
        Edge.of(6, "the last one, by the miles", ThingEdgeTests::lastByMiles);
        Edge.of(6, "NONE: in none", ThingEdgeTests::lastOfNone);
        Edge.of(6, "BAD: a THING that is not there", ThingEdgeTests::lastOfNoThing);
        Due.end();
    }

    private static void is(long got, long want) {
        Edge.is(got, want);
    }

    // ---- promise 1: a new object

    private static void noThings() {
        UnderPromise x = new UnderPromise();
        is(x.count(0), 0);
        for (int thing : new int[] {0, 1, 59}) {
            is(x.last(thing), BAD);
            is(x.promised(thing, 0), BAD);
            is(x.claim(thing, 0, 0, 0, 0), BAD);
        }
        for (int part = 0; part < 10; part++) is(x.oddest(part, 300), NONE);
        for (int batch = 0; batch < 8; batch++) is(x.chance(batch, 0, 300, 0), NO);
        for (int a = 0; a < 24; a++) is(x.exposed(a, 300), 0);
        is(x.rate(0, 300, 0), NO);
        is(x.called(0, 255, 0, 119), 0);
        is(x.calledAt(0, 255, 0, 119, 0), NONE);
        is(x.thing(0, 0, 0, 0), 0);
    }

    private static void noClaims() {
        UnderPromise x = new UnderPromise();
        for (int what = 1; what <= 8; what++) is(x.count(what), 0);
        Edge.noMore(x, 0);
        Edge.noMore(x, 99);
        x.thing(0, 0, 0, 0);
        is(x.table(0, 0, 300), 0);
        is(x.rate(0, 300, 0), 0);
        is(x.rate(0, 300, 1), 1);
        for (int d = 0; d < 12; d++) is(x.delays(300, d), 0);
        is(x.undone(289, 300), 0);
        is(x.undone(290, 300), NONE);
        is(x.chance(0, 0, 300, 0), 1);
        is(x.called(0, 255, 0, 119), 1);
        is(x.left(), 0);
        is(x.claim(0, 0, 0, 0, 0), 0);
        is(x.about(0, 0), 0);
        Edge.noMore(x, 1);
    }

    private static void noPartAbove() {
        for (int part = 0; part < 10; part++) {
            UnderPromise x = Edge.withThings(1);
            x.claim(0, part, 0, 0, 0);
            x.maker(part, 3, 100);
            for (int other = 0; other < 10; other++) {
                is(x.payer(other), other == part ? 3 : NONE);
                is(x.called(other, 255, 0, 119), other == part ? 0 : 1);
                is(x.under(part, other), other == part ? NO : 1);
            }
        }
    }

    private static void noMakers() {
        UnderPromise x = Edge.withThings(1);
        for (int part = 0; part < 10; part++) x.claim(0, part, 0, 0, 10);
        for (int part = 0; part < 10; part++) is(x.payer(part), NONE);
        for (int maker = 0; maker < 6; maker++) is(x.pays(maker), 0);
        is(x.left(), 100);
    }

    private static void newBesideAFullOne() {
        UnderPromise full = Edge.withAllClaims(10);
        for (int i = 10; i < 60; i++) full.thing(0, 0, 0, 0);
        full.promise(0, 1, 1);
        full.again(12);
        full.under(0, 1);
        full.maker(1, 5, 100);
        UnderPromise x = new UnderPromise();
        for (int what = 0; what <= 8; what++) is(x.count(what), 0);
        is(x.again(1), 1);
        is(x.payer(0), NONE);
        is(x.payer(1), NONE);
        is(x.thing(0, 0, 0, 0), 0);
        is(x.last(0), 23);
        is(full.count(0), 60);
        is(full.last(0), 0);
        is(full.again(12), 12);
    }

    private static void monthsAtFirst() {
        UnderPromise x = new UnderPromise();
        for (int land = 0; land < 4; land++) {
            is(x.thing(0, 10, 0, land), land);
            is(x.last(land), 33);
            is(x.promised(land, 33), 1);
            is(x.promised(land, 34), 0);
        }
    }

    private static void milesAtFirst() {
        UnderPromise x = new UnderPromise();
        for (int land = 0; land < 4; land++) {
            x.thing(0, 10, 3000, land);
            x.thing(0, 10, 2999, land);
            is(x.promised(2 * land, 29), 1);
            is(x.promised(2 * land, 30), 0);
            is(x.last(2 * land), 29);
            is(x.promised(2 * land + 1, 30), 1);
            is(x.last(2 * land + 1), 30);
        }
    }

    private static void againAtFirst() {
        UnderPromise x = Edge.withThings(1);
        is(x.claim(0, 0, 10, 10, 0), 0);
        is(x.claim(0, 0, 11, 11, 0), 4);
        is(x.claim(0, 0, 12, 12, 0), 0);
        is(x.again(1), 1);
    }

    // ---- promise 2: thing

    private static void numbersOfThings() {
        UnderPromise x = new UnderPromise();
        for (int i = 0; i < 60; i++) {
            is(x.thing(8, 0, 0, 0), BAD);
            is(x.thing(i % 8, 2 * i, 0, i % 4), i);
            is(x.count(0), i + 1);
        }
        for (int i = 0; i < 60; i++) is(x.last(i), 2 * i + 23);
    }

    private static void batches() {
        UnderPromise x = new UnderPromise();
        for (int batch = 0; batch < 8; batch++) {
            is(x.thing(batch, 0, 0, 0), batch);
            is(x.called(0, 1 << batch, 0, 119), 1);
        }
        Edge.Watch watch = new Edge.Watch(x);
        for (int batch : new int[] {-1, 8, MOST, LEAST}) watch.bad(x.thing(batch, 0, 0, 0));
    }

    private static void monthsOfSale() {
        UnderPromise x = new UnderPromise();
        is(x.thing(0, 0, 0, 0), 0);
        is(x.thing(0, 119, 0, 0), 1);
        is(x.last(0), 23);
        is(x.last(1), 142);
        Edge.Watch watch = new Edge.Watch(x);
        for (int month : new int[] {-1, 120, MOST, LEAST}) watch.bad(x.thing(0, month, 0, 0));
    }

    private static void milesAMonth() {
        UnderPromise x = new UnderPromise();
        is(x.thing(0, 0, 0, 0), 0);
        is(x.thing(0, 0, 5000, 0), 1);
        is(x.last(0), 23);
        is(x.last(1), 11);
        Edge.Watch watch = new Edge.Watch(x);
        for (int miles : new int[] {-1, 5001, MOST, LEAST}) watch.bad(x.thing(0, 0, miles, 0));
    }

    private static void lands() {
        UnderPromise x = new UnderPromise();
        for (int land = 0; land < 4; land++) {
            x.promise(land, land + 1, 600000);
            is(x.thing(0, 0, 0, land), land);
            is(x.last(land), land);
        }
        Edge.Watch watch = new Edge.Watch(x);
        for (int land : new int[] {-1, 4, MOST, LEAST}) watch.bad(x.thing(0, 0, 0, land));
    }

    private static void fullOfThings() {
        UnderPromise x = Edge.withThings(59);
        is(x.thing(7, 119, 0, 3), 59);
        is(x.last(59), 142);
        Edge.Watch watch = new Edge.Watch(x);
        watch.full(x.thing(0, 0, 0, 0));
        watch.full(x.thing(7, 119, 5000, 3));
        is(x.count(0), 60);
        is(x.last(59), 142);
        is(x.last(60), BAD);
    }

    private static void badAheadOfFull() {
        UnderPromise x = Edge.withThings(60);
        Edge.Watch watch = new Edge.Watch(x);
        watch.bad(x.thing(8, 0, 0, 0));
        watch.bad(x.thing(0, 120, 0, 0));
        watch.bad(x.thing(0, 0, 5001, 0));
        watch.bad(x.thing(0, 0, 0, 4));
    }

    // ---- promise 3: promise

    private static void promiseOfOneLand() {
        UnderPromise x = Edge.withAllLands();
        for (int changed = 0; changed < 4; changed++) {
            is(x.promise(changed, 7 + changed, 3), 1);
            for (int land = 0; land < 4; land++) {
                is(x.last(2 * land), 10 + (land <= changed ? 6 + land : 49 + land));
                is(x.last(2 * land + 1), 10 + (land <= changed ? 2 : 29 + land));
            }
        }
    }

    private static void promisedMonths() {
        UnderPromise x = Edge.withAllLands();
        is(x.promise(0, 0, 600000), 1);
        is(x.last(0), NONE);
        is(x.promise(0, 120, 600000), 1);
        is(x.last(0), 129);
        is(x.promise(0, 40, 20), 1);
        Edge.Watch watch = new Edge.Watch(x);
        for (int months : new int[] {-1, 121, MOST, LEAST}) watch.bad(x.promise(0, months, 5));
        is(x.last(0), 49);
        is(x.last(1), 29);
    }

    private static void promisedMiles() {
        UnderPromise x = Edge.withAllLands();
        int dear = x.thing(0, 10, 5000, 0);
        is(x.promise(0, 120, 0), 1);
        is(x.last(0), NONE);
        is(x.promise(0, 120, 600000), 1);
        is(x.last(dear), 129);
        is(x.promise(0, 40, 20), 1);
        Edge.Watch watch = new Edge.Watch(x);
        for (int miles : new int[] {-1, 600001, MOST, LEAST}) watch.bad(x.promise(0, 5, miles));
        is(x.last(0), 49);
        is(x.last(1), 29);
    }

    private static void promiseOfNoLand() {
        UnderPromise x = Edge.withAllLands();
        Edge.Watch watch = new Edge.Watch(x);
        for (int land : new int[] {-1, 4, MOST, LEAST}) watch.bad(x.promise(land, 5, 5));
    }

    private static void judgedStaySo() {
        UnderPromise x = Edge.withThings(1);
        is(x.claim(0, 0, 23, 23, 7), 0);
        is(x.claim(0, 0, 24, 24, 0), 3);
        x.promise(0, 0, 0);
        is(x.about(0, 5), 0);
        is(x.count(2), 1);
        is(x.table(0, 23, 300), 1);
        is(x.left(), 7);
        x.promise(0, 120, 600000);
        is(x.about(1, 5), 3);
        is(x.count(5), 1);
        is(x.claim(0, 0, 23, 23, 0), 2);
        is(x.claim(0, 1, 24, 24, 0), 0);
    }

    // ---- promise 4: again

    private static void whatAgainWas() {
        UnderPromise x = new UnderPromise();
        is(x.again(1), 1);
        for (int g = 0; g <= 12; g++) is(x.again(g), g == 0 ? 1 : g - 1);
        is(x.again(12), 12);
        is(x.again(0), 12);
        is(x.again(0), 0);
    }

    private static void againOutOfRange() {
        UnderPromise x = Edge.withThings(1);
        is(x.again(0), 1);
        is(x.again(12), 0);
        is(x.again(5), 12);
        Edge.Watch watch = new Edge.Watch(x);
        for (int g : new int[] {-1, 13, MOST, LEAST}) watch.bad(x.again(g));
        is(x.again(0), 5);
    }

    private static void againOfNoMonths() {
        UnderPromise x = Edge.withThings(1);
        x.again(0);
        for (int month = 0; month < 24; month++) is(x.claim(0, 0, month, month, 0), 0);
        is(x.claim(0, 0, 23, 23, 0), 2);
    }

    private static void againOfTwelveMonths() {
        UnderPromise x = Edge.withThings(3);
        x.again(12);
        is(x.claim(0, 0, 5, 5, 0), 0);
        is(x.claim(0, 0, 17, 17, 0), 4);
        is(x.claim(0, 0, 18, 18, 0), 0);
        is(x.claim(1, 0, 0, 0, 0), 0);
        is(x.claim(1, 0, 12, 12, 0), 4);
        is(x.claim(1, 0, 13, 13, 0), 0);
        is(x.claim(2, 0, 11, 11, 0), 0);
        is(x.claim(2, 0, 0, 0, 0), 0);
        is(x.claim(2, 0, 1, 1, 0), 4);
    }

    // ---- promise 5: promised

    private static void promisedFromItsSale() {
        UnderPromise x = new UnderPromise();
        x.thing(0, 50, 0, 0);
        x.thing(0, 119, 5000, 0);
        is(x.promised(0, 0), 0);
        is(x.promised(0, 49), 0);
        is(x.promised(0, 50), 1);
        is(x.promised(1, 118), 0);
        is(x.promised(1, 119), 1);
    }

    private static void promisedByMonths() {
        UnderPromise x = new UnderPromise();
        x.thing(0, 50, 0, 0);
        for (int months : new int[] {1, 2, 12, 120}) {
            x.promise(0, months, 1);
            is(x.promised(0, 50 + months - 1), 1);
            is(x.promised(0, 50 + months), 0);
            is(x.promised(0, 300), 0);
        }
        x.promise(0, 0, 1);
        is(x.promised(0, 50), 0);
        is(x.promised(0, 49), 0);
    }

    private static void promisedByMiles() {
        UnderPromise x = new UnderPromise();
        x.thing(0, 50, 200, 0);
        x.thing(0, 50, 0, 0);
        x.thing(0, 0, 5000, 0);
        x.promise(0, 120, 1000);
        is(x.promised(0, 54), 1);
        is(x.promised(0, 55), 0);
        x.promise(0, 120, 1001);
        is(x.promised(0, 55), 1);
        is(x.promised(0, 56), 0);
        x.promise(0, 120, 1);
        is(x.promised(0, 50), 1);
        is(x.promised(0, 51), 0);
        is(x.promised(1, 169), 1);
        x.promise(0, 120, 0);
        is(x.promised(0, 50), 0);
        is(x.promised(1, 50), 0);
        x.promise(0, 120, 595000);
        is(x.promised(2, 118), 1);
        is(x.promised(2, 119), 0);
        is(x.promised(2, 300), 0);
    }

    private static void promisedInNoMonth() {
        UnderPromise x = Edge.withThings(1);
        x.thing(0, 119, 0, 0);
        is(x.promised(0, 0), 1);
        is(x.promised(0, 300), 0);
        is(x.promised(1, 0), 0);
        Edge.Watch watch = new Edge.Watch(x);
        for (int month : new int[] {-1, 301, MOST, LEAST}) watch.bad(x.promised(0, month));
    }

    private static void promisedOfNoThing() {
        UnderPromise x = Edge.withThings(2);
        is(x.promised(1, 0), 1);
        Edge.Watch watch = new Edge.Watch(x);
        for (int thing : new int[] {-1, 2, 59, 60, MOST, LEAST}) watch.bad(x.promised(thing, 0));
        UnderPromise full = Edge.withThings(60);
        is(full.promised(59, 0), 1);
        is(full.promised(60, 0), BAD);
    }

    // ---- promise 6: last

    private static void lastAgreesWithPromised() {
        int[][] promises = {{1, 1}, {1, 600000}, {120, 1}, {120, 600000}, {120, 599999}, {24, 60000}, {10, 1000}};
        UnderPromise x = new UnderPromise();
        int[] milesAMonth = {0, 1, 99, 100, 101, 4999, 5000};
        for (int miles : milesAMonth) x.thing(0, 119, miles, 0);
        for (int[] promise : promises) {
            x.promise(0, promise[0], promise[1]);
            for (int thing = 0; thing < milesAMonth.length; thing++) {
                int last = x.last(thing);
                is(x.promised(thing, last), 1);
                is(x.promised(thing, last + 1), 0);
            }
        }
    }

    private static void lastByMonths() {
        UnderPromise x = new UnderPromise();
        x.thing(0, 0, 0, 0);
        x.thing(0, 119, 0, 0);
        for (int months : new int[] {1, 2, 119, 120}) {
            x.promise(0, months, 1);
            is(x.last(0), months - 1);
            is(x.last(1), 118 + months);
        }
    }

    private static void lastByMiles() {
        UnderPromise x = new UnderPromise();
        x.thing(0, 7, 100, 0);
        x.thing(0, 7, 5000, 0);
        int[] promised = {1, 100, 101, 1000, 1001, 11900, 11901, 600000};
        int[] ages = {0, 0, 1, 9, 10, 118, 119, 119};
        for (int i = 0; i < promised.length; i++) {
            x.promise(0, 120, promised[i]);
            is(x.last(0), 7 + ages[i]);
        }
        is(x.last(1), 126);
        x.promise(0, 120, 595000);
        is(x.last(1), 125);
    }

    private static void lastOfNone() {
        UnderPromise x = new UnderPromise();
        x.thing(0, 0, 0, 0);
        x.thing(0, 119, 5000, 0);
        int[][] none = {{0, 600000}, {120, 0}, {0, 0}, {0, 1}, {1, 0}};
        for (int[] promise : none) {
            x.promise(0, promise[0], promise[1]);
            for (int thing = 0; thing < 2; thing++) {
                is(x.last(thing), NONE);
                is(x.promised(thing, 119 * thing), 0);
            }
        }
        x.promise(0, 1, 1);
        is(x.last(0), 0);
        is(x.last(1), 119);
    }

    private static void lastOfNoThing() {
        UnderPromise x = Edge.withThings(2);
        is(x.last(1), 23);
        Edge.Watch watch = new Edge.Watch(x);
        for (int thing : new int[] {-1, 2, 59, 60, MOST, LEAST}) watch.bad(x.last(thing));
        UnderPromise full = Edge.withThings(60);
        is(full.last(59), 23);
        is(full.last(60), BAD);
    }
}

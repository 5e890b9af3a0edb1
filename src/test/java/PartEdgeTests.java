import java.math.BigInteger;
import java.util.ArrayList;
import java.util.List;

/** Promises 16 to 24: each sentence of the document that names an edge has a test of its own. */
public final class PartEdgeTests {
    private static final int NONE = UnderPromise.NONE, BAD = UnderPromise.BAD, NO = UnderPromise.NO;
    private static final int MOST = Edge.MOST, LEAST = Edge.LEAST;

    public static void main(String[] args) {
        rows();
        payments();
        thingsCalledBack();
        wholes();
        Due.end();
    }

    private static void rows() {
        Edge.of(16, "A PART stands under another one: 1.", PartEdgeTests::underAnother);
        Edge.of(16, "NONE: none", PartEdgeTests::underNone);
        Edge.of(16, "NO: it would stand under itself", PartEdgeTests::underItself);
        Edge.of(16, "NO: under itself by a row", PartEdgeTests::underItselfByRow);
        Edge.of(16, "BAD.", PartEdgeTests::underBad);
        Edge.of(16, "Refused, the first of: BAD, NO", PartEdgeTests::badAheadOfNo);
    }

    private static void payments() {
        Edge.of(17, "The MAKER of a PART, its share: 1.", PartEdgeTests::makerSetAnew);
        Edge.of(17, "(NONE)", PartEdgeTests::makerNone);
        Edge.of(17, "BAD: PART (0 .. 9)", PartEdgeTests::makerOfNoPart);
        Edge.of(17, "BAD: A MAKER 0 .. 5", PartEdgeTests::makerOutOfRange);
        Edge.of(17, "BAD: a share (0 .. 100 hundredths)", PartEdgeTests::shares);

        Edge.of(18, "the MAKER of the one above, and so on", PartEdgeTests::payerByRow);
        Edge.of(18, "NONE.", PartEdgeTests::payerNone);
        Edge.of(18, "BAD.", PartEdgeTests::payerBad);

        Edge.of(19, "cut for each CLAIM", PartEdgeTests::paysCut);
        Edge.of(19, "a share (0 .. 100 hundredths)", PartEdgeTests::paysNothingAndAll);
        Edge.of(19, "where a PART has no MAKER that of the one above", PartEdgeTests::paysByRow);
        Edge.of(19, "of what LET CLAIMS cost", PartEdgeTests::paysForLetOnes);
        Edge.of(19, "in all, for a hundred CLAIMS", PartEdgeTests::paysForAll);
        Edge.of(19, "BAD.", PartEdgeTests::paysBad);

        Edge.of(20, "left, when no MAKER paid", PartEdgeTests::leftOfNone);
        Edge.of(20, "left, when all MAKERS paid", PartEdgeTests::leftOfAll);
        Edge.of(20, "left of what was cut", PartEdgeTests::leftOfCut);
    }

    private static void thingsCalledBack() {
        Edge.of(21, "BATCHES (bits, 1 .. 255)", PartEdgeTests::calledByBatches);
        Edge.of(21, "sold in the months from .. to", PartEdgeTests::calledByMonths);
        Edge.of(21, "or of a PART that stands under it (by rows, too)", PartEdgeTests::calledByRows);
        Edge.of(21, "that had no LET CLAIM", PartEdgeTests::calledForLetOnes);
        Edge.of(21, "How many THINGS: none, and all", PartEdgeTests::calledNoneAndAll);
        Edge.of(21, "BAD: PART, BATCHES", PartEdgeTests::calledBad);
        Edge.of(21, "BAD: months from .. to", PartEdgeTests::calledInNoMonths);

        Edge.of(22, "The i-th of these: by numbers", PartEdgeTests::calledAtEnds);
        Edge.of(22, "NONE: not so many.", PartEdgeTests::calledAtNotSoMany);
        Edge.of(22, "BAD likewise", PartEdgeTests::calledAtBad);
        Edge.of(22, "and i below 0", PartEdgeTests::calledAtBelowNone);
    }

    private static void wholes() {
        Edge.of(23, "How many: of an empty object", PartEdgeTests::countOfEmpty);
        Edge.of(23, "How many: of a full object", PartEdgeTests::countOfFull);
        Edge.of(23, "3 .. 6 those JUDGED 1 .. 4", PartEdgeTests::countOfJudged);
        Edge.of(23, "7 THINGS with a LET CLAIM", PartEdgeTests::countOfThingsWithLetOnes);
        Edge.of(23, "8 costs of all LET ones", PartEdgeTests::countOfCosts);
        Edge.of(23, "BAD.", PartEdgeTests::countBad);

        Edge.of(24, "h = 199, of an empty object", PartEdgeTests::digestOfEmpty);
        Edge.of(24, "h = 31 h + v, of a full object: it wraps around", PartEdgeTests::digestOfFull);
        Edge.of(24, "last(), which may be NONE", PartEdgeTests::digestOfLastNone);
        Edge.of(24, "of PARTS above, MAKER, share", PartEdgeTests::digestOfParts);
        Edge.of(24, "Refused, changing nothing", PartEdgeTests::digestAfterRefused);
    }

    private static void is(long got, long want) {
        Edge.is(got, want);
    }

    // ---- promise 16: under

    private static void underAnother() {
        for (int part = 0; part < 10; part++) {
            for (int above = 0; above < 10; above++) {
                if (above == part) continue;
                UnderPromise x = new UnderPromise();
                x.maker(above, 2, 50);
                is(x.under(part, above), 1);
                is(x.payer(part), 2);
                is(x.under(part, above), 1);
                is(x.payer(part), 2);
            }
        }
    }

    private static void underNone() {
        UnderPromise x = Edge.withOneRow();
        x.maker(9, 4, 10);
        is(x.payer(0), 4);
        is(x.under(5, NONE), 1);
        is(x.payer(5), NONE);
        is(x.payer(0), NONE);
        is(x.payer(6), 4);
        is(x.under(5, NONE), 1);
        is(x.under(9, 0), 1);
        is(x.payer(5), NONE);
        is(new UnderPromise().under(0, NONE), 1);
    }

    private static void underItself() {
        UnderPromise x = new UnderPromise();
        Edge.Watch empty = new Edge.Watch(x);
        for (int part = 0; part < 10; part++) empty.no(x.under(part, part));
        UnderPromise row = Edge.withOneRow();
        Edge.Watch watch = new Edge.Watch(row);
        for (int part = 0; part < 10; part++) watch.no(row.under(part, part));
    }

    private static void underItselfByRow() {
        UnderPromise two = new UnderPromise();
        is(two.under(9, 0), 1);
        new Edge.Watch(two).no(two.under(0, 9));
        UnderPromise x = Edge.withOneRow();
        Edge.Watch watch = new Edge.Watch(x);
        for (int part = 1; part < 10; part++) {
            for (int below = 0; below < part; below++) watch.no(x.under(part, below));
        }
        for (int part = 0; part < 8; part++) is(x.under(part, 9), 1);
        is(x.under(7, 0), 1);
        new Edge.Watch(x).no(x.under(0, 7));
    }

    private static void underBad() {
        UnderPromise x = Edge.withOneRow();
        is(x.under(0, 9), 1);
        Edge.Watch watch = new Edge.Watch(x);
        for (int part : new int[] {-1, 10, MOST, LEAST}) {
            watch.bad(x.under(part, 0));
            watch.bad(x.under(part, NONE));
        }
        for (int above : new int[] {-2, 10, MOST, LEAST}) watch.bad(x.under(0, above));
    }

    private static void badAheadOfNo() {
        UnderPromise x = new UnderPromise();
        Edge.Watch watch = new Edge.Watch(x);
        for (int part : new int[] {-2, -1, 10, MOST, LEAST}) watch.bad(x.under(part, part));
    }

    // ---- promises 17 and 18: maker, payer

    private static void makerSetAnew() {
        UnderPromise x = Edge.withThings(1);
        x.claim(0, 0, 0, 0, 100);
        is(x.maker(0, 0, 10), 1);
        is(x.pays(0), 10);
        is(x.maker(0, 0, 20), 1);
        is(x.pays(0), 20);
        is(x.maker(0, 5, 30), 1);
        is(x.pays(0), 0);
        is(x.pays(5), 30);
        for (int part = 1; part < 10; part++) is(x.payer(part), NONE);
    }

    private static void makerNone() {
        UnderPromise x = Edge.withThings(1);
        x.claim(0, 0, 0, 0, 100);
        is(x.maker(0, NONE, 100), 1);
        is(x.payer(0), NONE);
        is(x.left(), 100);
        is(x.maker(0, 3, 100), 1);
        is(x.left(), 0);
        is(x.maker(0, NONE, 0), 1);
        is(x.payer(0), NONE);
        is(x.pays(3), 0);
        is(x.left(), 100);
    }

    private static void makerOfNoPart() {
        UnderPromise x = new UnderPromise();
        is(x.maker(0, 1, 1), 1);
        is(x.maker(9, 1, 1), 1);
        is(x.payer(0), 1);
        is(x.payer(9), 1);
        Edge.Watch watch = new Edge.Watch(x);
        for (int part : new int[] {-1, 10, MOST, LEAST}) {
            watch.bad(x.maker(part, 2, 2));
            watch.bad(x.maker(part, NONE, 0));
        }
    }

    private static void makerOutOfRange() {
        UnderPromise x = new UnderPromise();
        for (int maker = 0; maker < 6; maker++) {
            is(x.maker(maker, maker, 1), 1);
            is(x.payer(maker), maker);
        }
        Edge.Watch watch = new Edge.Watch(x);
        for (int maker : new int[] {-2, 6, MOST, LEAST}) watch.bad(x.maker(0, maker, 2));
    }

    private static void shares() {
        UnderPromise x = Edge.withThings(1);
        x.claim(0, 0, 0, 0, 100);
        is(x.maker(0, 1, 0), 1);
        is(x.pays(1), 0);
        is(x.maker(0, 1, 100), 1);
        is(x.pays(1), 100);
        is(x.maker(0, 1, 1), 1);
        is(x.pays(1), 1);
        Edge.Watch watch = new Edge.Watch(x);
        for (int share : new int[] {-1, 101, MOST, LEAST}) {
            watch.bad(x.maker(0, 2, share));
            watch.bad(x.maker(0, NONE, share));
        }
    }

    private static void payerByRow() {
        UnderPromise x = Edge.withOneRow();
        x.maker(9, 0, 0);
        for (int part = 0; part < 10; part++) is(x.payer(part), 0);
        x.maker(5, 3, 10);
        for (int part = 0; part < 10; part++) is(x.payer(part), part <= 5 ? 3 : 0);
        x.maker(0, 5, 10);
        for (int part = 0; part < 10; part++) is(x.payer(part), part == 0 ? 5 : part <= 5 ? 3 : 0);
        x.maker(5, NONE, 10);
        for (int part = 0; part < 10; part++) is(x.payer(part), part == 0 ? 5 : 0);
    }

    private static void payerNone() {
        UnderPromise x = Edge.withOneRow();
        for (int part = 0; part < 10; part++) is(x.payer(part), NONE);
        x.maker(0, 4, 10);
        is(x.payer(0), 4);
        for (int part = 1; part < 10; part++) is(x.payer(part), NONE);
        x.maker(0, NONE, 10);
        is(x.payer(0), NONE);
    }

    private static void payerBad() {
        UnderPromise x = Edge.withOneRow();
        x.maker(9, 2, 10);
        is(x.payer(0), 2);
        is(x.payer(9), 2);
        Edge.Watch watch = new Edge.Watch(x);
        for (int part : new int[] {-1, -2, 10, MOST, LEAST}) watch.bad(x.payer(part));
    }

    // ---- promises 19 and 20: pays, left

    private static void paysCut() {
        UnderPromise x = Edge.withThings(3);
        for (int thing = 0; thing < 3; thing++) x.claim(thing, 0, 0, 0, 199);
        x.maker(0, 1, 50);
        is(x.pays(1), 3 * 99);
        x.maker(0, 1, 1);
        is(x.pays(1), 3);
        x.maker(0, 1, 99);
        is(x.pays(1), 3 * 197);
        x.claim(0, 1, 0, 0, 1);
        x.maker(1, 2, 99);
        is(x.pays(2), 0);
        x.maker(1, 2, 100);
        is(x.pays(2), 1);
    }

    private static void paysNothingAndAll() {
        UnderPromise x = Edge.withThings(1);
        x.claim(0, 0, 0, 0, 9999);
        x.claim(0, 1, 0, 0, 0);
        x.maker(0, 0, 0);
        x.maker(1, 5, 100);
        is(x.pays(0), 0);
        is(x.pays(5), 0);
        x.maker(0, 0, 100);
        is(x.pays(0), 9999);
    }

    private static void paysByRow() {
        UnderPromise x = Edge.withOneRow();
        x.claim(0, 0, 0, 0, 1000);
        x.claim(0, 4, 0, 0, 200);
        x.maker(9, 5, 10);
        is(x.pays(5), 120);
        x.maker(4, 2, 50);
        is(x.pays(2), 600);
        is(x.pays(5), 0);
        x.maker(0, 2, 0);
        is(x.pays(2), 100);
        is(x.pays(5), 0);
        x.maker(4, NONE, 50);
        is(x.pays(2), 0);
        is(x.pays(5), 20);
    }

    private static void paysForLetOnes() {
        UnderPromise x = new UnderPromise();
        x.thing(0, 10, 0, 0);
        x.maker(0, 3, 100);
        x.claim(0, 0, 20, 300, 1);
        x.claim(0, 0, 9, 9, 10);
        x.claim(0, 0, 20, 20, 100);
        x.claim(0, 0, 34, 34, 1000);
        x.claim(0, 0, 21, 21, 10000);
        is(x.count(1), 5);
        is(x.pays(3), 1);
        is(x.left(), 0);
    }

    private static void paysForAll() {
        UnderPromise x = Edge.withAllClaims(10000);
        for (int part = 0; part < 9; part++) x.under(part, part + 1);
        x.maker(9, 5, 100);
        is(x.pays(5), 1000000);
        x.maker(9, 5, 99);
        is(x.pays(5), 990000);
        x.maker(9, 0, 1);
        is(x.pays(5), 0);
        is(x.pays(0), 10000);
    }

    private static void paysBad() {
        UnderPromise x = Edge.withThings(1);
        x.claim(0, 0, 0, 0, 100);
        x.claim(0, 1, 0, 0, 100);
        x.claim(0, 2, 0, 0, 100);
        x.maker(0, 0, 50);
        x.maker(1, 5, 25);
        is(x.pays(0), 50);
        is(x.pays(5), 25);
        Edge.Watch watch = new Edge.Watch(x);
        for (int maker : new int[] {-1, -2, 6, MOST, LEAST}) watch.bad(x.pays(maker));
    }

    private static void leftOfNone() {
        is(new UnderPromise().left(), 0);
        UnderPromise x = Edge.withAllClaims(10000);
        is(x.left(), 1000000);
        for (int part = 0; part < 10; part++) x.maker(part, part % 6, 0);
        is(x.left(), 1000000);
    }

    private static void leftOfAll() {
        UnderPromise x = Edge.withAllClaims(10000);
        for (int part = 0; part < 9; part++) x.maker(part, part % 6, 100);
        is(x.left(), 100000);
        x.maker(9, 0, 100);
        is(x.left(), 0);
        UnderPromise row = Edge.withAllClaims(10000);
        for (int part = 0; part < 9; part++) row.under(part, part + 1);
        row.maker(9, 5, 100);
        is(row.left(), 0);
    }

    private static void leftOfCut() {
        UnderPromise x = Edge.withThings(3);
        for (int thing = 0; thing < 3; thing++) x.claim(thing, thing, 0, 0, 1);
        for (int part = 0; part < 3; part++) x.maker(part, part, 99);
        is(x.left(), 3);
        x.maker(0, 5, 100);
        is(x.left(), 2);
        x.claim(0, 0, 10, 10, 199);
        x.maker(0, 0, 50);
        is(x.left(), 1 + 100 + 1 + 1);
    }

    // ---- promises 21 and 22: called, calledAt

    private static void calledByBatches() {
        UnderPromise x = new UnderPromise();
        for (int i = 0; i < 36; i++) x.thing(batchOfPyramid(i), 0, 0, 0);
        for (int batch = 0; batch < 8; batch++) {
            is(x.called(0, 1 << batch, 0, 119), batch + 1);
            is(x.called(0, 255 - (1 << batch), 0, 119), 35 - batch);
        }
        is(x.called(0, 1, 0, 119), 1);
        is(x.called(0, 255, 0, 119), 36);
        is(x.called(0, 129, 0, 119), 9);
    }

    /** BATCH 0 has one THING, BATCH 1 two, and so on. */
    private static int batchOfPyramid(int thing) {
        int batch = 0;
        for (int ahead = 1; ahead <= thing; ahead += batch + 1) batch++;
        return batch;
    }

    private static void calledByMonths() {
        UnderPromise x = new UnderPromise();
        for (int month : new int[] {0, 1, 50, 51, 118, 119, 119}) x.thing(0, month, 0, 0);
        int[][] fromToDue = {{0, 119, 7}, {0, 0, 1}, {1, 1, 1}, {2, 49, 0}, {2, 50, 1}, {50, 51, 2}, {51, 118, 2},
            {51, 117, 1}, {52, 118, 1}, {119, 119, 2}, {1, 118, 4}};
        for (int[] w : fromToDue) is(x.called(0, 255, w[0], w[1]), w[2]);
    }

    private static void calledByRows() {
        UnderPromise x = Edge.withOneRow();
        for (int part = 0; part < 10; part++) x.claim(part, part, 0, 0, 0);
        for (int part = 0; part < 10; part++) {
            is(x.called(part, 255, 0, 119), 9 - part);
            is(x.calledAt(part, 255, 0, 119, 0), part == 9 ? NONE : part + 1);
        }
        x.under(4, NONE);
        is(x.called(9, 255, 0, 119), 5);
        is(x.called(5, 255, 0, 119), 9);
        is(x.called(4, 255, 0, 119), 5);
        x.under(0, 9);
        is(x.called(9, 255, 0, 119), 4);
        is(x.called(4, 255, 0, 119), 6);
    }

    private static void calledForLetOnes() {
        UnderPromise x = new UnderPromise();
        for (int i = 0; i < 4; i++) x.thing(0, 10, 0, 0);
        x.claim(0, 0, 20, 300, 0);
        x.claim(1, 0, 9, 9, 0);
        x.claim(2, 0, 34, 34, 0);
        x.claim(3, 1, 20, 20, 0);
        x.claim(3, 1, 20, 20, 0);
        x.claim(3, 1, 21, 21, 0);
        is(x.called(0, 255, 0, 119), 3);
        is(x.called(1, 255, 0, 119), 3);
        is(x.calledAt(0, 255, 0, 119, 0), 1);
        is(x.calledAt(1, 255, 0, 119, 2), 2);
        x.promise(0, 0, 0);
        is(x.called(0, 255, 0, 119), 3);
    }

    private static void calledNoneAndAll() {
        is(new UnderPromise().called(0, 255, 0, 119), 0);
        UnderPromise x = Edge.withThings(60);
        is(x.called(9, 1, 0, 0), 60);
        is(x.called(9, 254, 0, 0), 0);
        is(x.called(9, 1, 1, 119), 0);
        for (int thing = 0; thing < 60; thing++) x.claim(thing, 9, 0, 0, 0);
        is(x.called(9, 1, 0, 0), 0);
        is(x.called(8, 1, 0, 0), 60);
    }

    private static int[] wrongBatches() {
        return new int[] {0, 256, 257, -1, MOST, LEAST};
    }

    private static void calledBad() {
        UnderPromise x = Edge.withThings(1);
        is(x.called(0, 1, 0, 0), 1);
        is(x.called(9, 255, 0, 119), 1);
        Edge.Watch watch = new Edge.Watch(x);
        for (int part : new int[] {-1, 10, MOST, LEAST}) watch.bad(x.called(part, 255, 0, 119));
        for (int batches : wrongBatches()) watch.bad(x.called(0, batches, 0, 119));
    }

    private static void calledInNoMonths() {
        UnderPromise x = Edge.withThings(1);
        is(x.called(0, 255, 0, 0), 1);
        is(x.called(0, 255, 119, 119), 0);
        Edge.Watch watch = new Edge.Watch(x);
        for (int from : new int[] {-1, LEAST, 120, MOST}) watch.bad(x.called(0, 255, from, 119));
        for (int to : new int[] {-1, LEAST, 120, MOST}) watch.bad(x.called(0, 255, 0, to));
        watch.bad(x.called(0, 255, 1, 0));
        watch.bad(x.called(0, 255, 119, 118));
        watch.bad(x.called(0, 255, -1, -1));
        watch.bad(x.called(0, 255, 120, 120));
    }

    private static void calledAtEnds() {
        UnderPromise x = Edge.withThings(60);
        for (int i = 0; i < 60; i++) is(x.calledAt(9, 1, 0, 0, i), i);
        for (int thing = 0; thing < 60; thing++) {
            if (thing % 7 != 3) x.claim(thing, 0, 0, 0, 0);
        }
        for (int i = 0; i <= 9; i++) is(x.calledAt(0, 255, 0, 119, i), i < 9 ? 7 * i + 3 : NONE);
        UnderPromise last = Edge.withThings(60);
        for (int thing = 0; thing < 59; thing++) last.claim(thing, 0, 0, 0, 0);
        is(last.calledAt(0, 1, 0, 0, 0), 59);
    }

    private static void calledAtNotSoMany() {
        is(new UnderPromise().calledAt(0, 255, 0, 119, 0), NONE);
        UnderPromise x = Edge.withThings(3);
        x.claim(1, 0, 0, 0, 0);
        is(x.calledAt(0, 255, 0, 119, 1), 2);
        for (int i : new int[] {2, 3, 59, 60, 63, 64, MOST}) is(x.calledAt(0, 255, 0, 119, i), NONE);
        UnderPromise full = Edge.withThings(60);
        is(full.calledAt(0, 255, 0, 119, 59), 59);
        for (int i : new int[] {60, 61, 63, 64, MOST}) is(full.calledAt(0, 255, 0, 119, i), NONE);
    }

    private static void calledAtBad() {
        UnderPromise x = Edge.withThings(1);
        is(x.calledAt(0, 1, 0, 0, 0), 0);
        is(x.calledAt(9, 255, 0, 119, 0), 0);
        is(x.calledAt(9, 255, 119, 119, 0), NONE);
        Edge.Watch watch = new Edge.Watch(x);
        for (int i : new int[] {0, MOST}) {
            for (int part : new int[] {-1, 10, MOST, LEAST}) watch.bad(x.calledAt(part, 255, 0, 119, i));
            for (int batches : wrongBatches()) watch.bad(x.calledAt(0, batches, 0, 119, i));
            for (int from : new int[] {-1, LEAST, 120, MOST}) watch.bad(x.calledAt(0, 255, from, 119, i));
            for (int to : new int[] {-1, LEAST, 120, MOST}) watch.bad(x.calledAt(0, 255, 0, to, i));
            watch.bad(x.calledAt(0, 255, 1, 0, i));
            watch.bad(x.calledAt(0, 255, 120, 120, i));
        }
    }

    private static void calledAtBelowNone() {
        UnderPromise x = Edge.withThings(2);
        is(x.calledAt(0, 255, 0, 119, 0), 0);
        Edge.Watch watch = new Edge.Watch(x);
        for (int i : new int[] {-1, -2, -60, LEAST}) {
            watch.bad(x.calledAt(0, 255, 0, 119, i));
            watch.bad(x.calledAt(0, 2, 0, 119, i));
            watch.bad(new UnderPromise().calledAt(0, 255, 0, 119, i));
        }
    }

    // ---- promises 23 and 24: count, digest

    private static void countOfEmpty() {
        UnderPromise x = new UnderPromise();
        for (int what = 0; what <= 8; what++) is(x.count(what), 0);
    }

    private static void countsAre(UnderPromise x, int... due) {
        for (int what = 0; what <= 8; what++) is(x.count(what), due[what]);
    }

    private static void countOfFull() {
        UnderPromise x = Edge.withThings(60);
        for (int i = 0; i < 100; i++) is(x.claim(i % 60, i / 60, 0, 0, 10000), 0);
        countsAre(x, 60, 100, 100, 0, 0, 0, 0, 60, 1000000);
        is(x.thing(0, 0, 0, 0), UnderPromise.FULL);
        is(x.claim(0, 2, 0, 0, 10000), UnderPromise.FULL);
        countsAre(x, 60, 100, 100, 0, 0, 0, 0, 60, 1000000);
    }

    private static void countOfJudged() {
        UnderPromise x = new UnderPromise();
        x.thing(0, 10, 0, 0);
        x.claim(0, 0, 20, 20, 1);
        countsAre(x, 1, 1, 1, 0, 0, 0, 0, 1, 1);
        x.claim(0, 0, 9, 9, 2);
        countsAre(x, 1, 2, 1, 1, 0, 0, 0, 1, 1);
        for (int i = 0; i < 2; i++) x.claim(0, 0, 20, 20, 2);
        countsAre(x, 1, 4, 1, 1, 2, 0, 0, 1, 1);
        for (int i = 0; i < 3; i++) x.claim(0, 0, 34, 34, 2);
        countsAre(x, 1, 7, 1, 1, 2, 3, 0, 1, 1);
        for (int i = 0; i < 4; i++) x.claim(0, 0, 21, 21, 2);
        countsAre(x, 1, 11, 1, 1, 2, 3, 4, 1, 1);
    }

    private static void countOfThingsWithLetOnes() {
        UnderPromise x = Edge.withThings(60);
        is(x.claim(0, 0, 24, 24, 0), 3);
        is(x.count(7), 0);
        is(x.claim(0, 0, 10, 300, 0), 0);
        is(x.count(7), 1);
        is(x.claim(0, 9, 10, 10, 0), 0);
        is(x.claim(0, 0, 12, 12, 0), 0);
        is(x.count(7), 1);
        is(x.claim(59, 9, 0, 0, 0), 0);
        is(x.count(7), 2);
        is(x.claim(31, 9, 23, 300, 0), 0);
        is(x.claim(32, 5, 23, 300, 0), 0);
        is(x.count(7), 4);
    }

    private static void countOfCosts() {
        UnderPromise x = Edge.withThings(1);
        x.claim(0, 0, 0, 0, 0);
        is(x.count(8), 0);
        x.claim(0, 1, 0, 300, 10000);
        is(x.count(8), 10000);
        x.claim(0, 1, 0, 0, 5000);
        x.claim(0, 1, 1, 1, 5000);
        x.claim(0, 1, 24, 24, 5000);
        is(x.count(8), 10000);
        x.maker(1, 0, 100);
        is(x.count(8), 10000);
    }

    private static void countBad() {
        UnderPromise x = Edge.withThings(1);
        Edge.Watch watch = new Edge.Watch(x);
        for (int what : new int[] {-1, 9, MOST, LEAST}) watch.bad(x.count(what));
    }

    /** The document's words on the numbers that are due, in numbers that never wrap around but at the end. */
    private static long digestOf(List<Integer> due) {
        BigInteger h = BigInteger.valueOf(199);
        for (int v : due) h = h.multiply(BigInteger.valueOf(31)).add(BigInteger.valueOf(v));
        return h.longValue();
    }

    private static void addPartsAtFirst(List<Integer> due) {
        for (int part = 0; part < 10; part++) due.addAll(List.of(-1, -1, 0));
    }

    private static void digestOfEmpty() {
        List<Integer> due = new ArrayList<>(List.of(0, 0, 0, 0, 0, 0, 0, 0, 0));
        addPartsAtFirst(due);
        UnderPromise x = new UnderPromise();
        is(x.digest(), digestOf(due));
        is(x.digest(), digestOf(due));
        is(x.digest(), -3146541813939209895L);
    }

    private static void digestOfFull() {
        UnderPromise x = new UnderPromise();
        List<Integer> due = new ArrayList<>(List.of(60, 100, 99, 0, 0, 1, 0, 60, 990000));
        for (int i = 0; i < 60; i++) {
            x.thing(i % 8, i, i % 2 * 5000, i % 4);
            due.addAll(List.of(i % 8, i, i % 2 * 5000, i % 4, i % 2 == 0 ? i + 23 : i + 11));
        }
        for (int i = 0; i < 99; i++) {
            x.claim(i % 60, i / 60, i % 60, 300, 10000);
            due.addAll(List.of(i % 60, i / 60, i % 60, 300, 10000, 0, 300 - i % 60));
        }
        x.claim(59, 9, 300, 300, 10000);
        due.addAll(List.of(59, 9, 300, 300, 10000, 3, 0));
        for (int part = 0; part < 10; part++) {
            x.under(part, part < 9 ? part + 1 : NONE);
            x.maker(part, part % 6, 10 * part + 10);
            due.addAll(List.of(part < 9 ? part + 1 : -1, part % 6, 10 * part + 10));
        }
        is(x.digest(), digestOf(due));
        is(x.digest(), digestOf(due));
    }

    private static void digestOfLastNone() {
        UnderPromise x = new UnderPromise();
        x.thing(7, 119, 5000, 3);
        x.promise(3, 0, 0);
        List<Integer> due = new ArrayList<>(List.of(1, 0, 0, 0, 0, 0, 0, 0, 0, 7, 119, 5000, 3, -1));
        addPartsAtFirst(due);
        is(x.digest(), digestOf(due));
    }

    private static void digestOfParts() {
        UnderPromise x = new UnderPromise();
        List<Integer> head = List.of(0, 0, 0, 0, 0, 0, 0, 0, 0);
        for (int changed = 0; changed < 10; changed++) {
            List<Integer> due = new ArrayList<>(head);
            addPartsAtFirst(due);
            int above = (changed + 1) % 10;
            due.set(9 + 3 * changed, above);
            due.set(9 + 3 * changed + 1, 5);
            due.set(9 + 3 * changed + 2, 100);
            x.under(changed, above);
            x.maker(changed, 5, 100);
            is(x.digest(), digestOf(due));
            x.under(changed, NONE);
            x.maker(changed, NONE, 0);
            due.set(9 + 3 * changed, -1);
            due.set(9 + 3 * changed + 1, -1);
            due.set(9 + 3 * changed + 2, 0);
            is(x.digest(), digestOf(due));
        }
    }

    private static void digestAfterRefused() {
        UnderPromise x = Edge.withOneRow();
        x.claim(0, 0, 0, 0, 100);
        x.maker(0, 0, 50);
        Edge.Watch watch = new Edge.Watch(x);
        watch.bad(x.thing(8, 0, 0, 0));
        watch.bad(x.promise(0, 1, 600001));
        watch.bad(x.again(13));
        watch.bad(x.claim(0, 0, 1, 0, 0));
        watch.no(x.rate(300, 300, 0));
        watch.no(x.chance(7, 0, 0, 0));
        watch.no(x.under(9, 0));
        watch.bad(x.maker(0, 1, 101));
        watch.bad(x.called(0, 0, 0, 119));
        watch.bad(x.count(9));
    }
}

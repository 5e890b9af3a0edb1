/** One test, or more, for each promise of the document: ordinary inputs, edges, wrong inputs. */
public final class PromiseTests {
    private static final int NONE = UnderPromise.NONE, BAD = UnderPromise.BAD;
    private static final int NO = UnderPromise.NO, FULL = UnderPromise.FULL;
    private static final int HUGE = Integer.MAX_VALUE, TINY = Integer.MIN_VALUE;

    public static void main(String[] args) {
        Due.test("promise 1: a new object", PromiseTests::newObject);
        Due.test("promise 2: thing", PromiseTests::thing);
        Due.test("promise 3: promise", PromiseTests::promise);
        Due.test("promise 4: again", PromiseTests::again);
        Due.test("promise 5: promised", PromiseTests::promised);
        Due.test("promise 6: last", PromiseTests::last);
        Due.test("promise 7: claim, how it is judged", PromiseTests::claimJudged);
        Due.test("promise 7: claim, the order of judging", PromiseTests::claimJudgedInOrder);
        Due.test("promise 7: claim, refused", PromiseTests::claimRefused);
        Due.test("promise 8: about", PromiseTests::about);
        Due.test("promise 9: table", PromiseTests::table);
        Due.test("promise 10: exposed", PromiseTests::exposed);
        Due.test("promise 11: rate", PromiseTests::rate);
        Due.test("promise 12: delays", PromiseTests::delays);
        Due.test("promise 13: undone", PromiseTests::undone);
        Due.test("promise 14: chance", PromiseTests::chance);
        Due.test("promise 14: chance, against all choices", PromiseTests::chanceByChoices);
        Due.test("promise 14: chance, of many things", PromiseTests::chanceOfMany);
        Due.test("promise 15: oddest", PromiseTests::oddest);
        Due.test("promise 15: oddest, as the chances tell", PromiseTests::oddestOfFew);
        Due.test("promise 15: oddest, held exactly", PromiseTests::oddestExactly);
        Due.test("promise 16: under", PromiseTests::under);
        Due.test("promise 17: maker", PromiseTests::maker);
        Due.test("promise 18: payer", PromiseTests::payer);
        Due.test("promise 19: pays", PromiseTests::pays);
        Due.test("promise 20: left", PromiseTests::left);
        Due.test("promise 21: called", PromiseTests::called);
        Due.test("promise 22: calledAt", PromiseTests::calledAt);
        Due.test("promise 23: count", PromiseTests::count);
        Due.test("promise 24: digest", PromiseTests::digest);
        Due.end();
    }

    /** What is refused changes nothing: the digest tells the whole state but g and the PROMISES of empty LANDS. */
    private static void refused(UnderPromise x, String call, long got, long want, long digestAhead) {
        Due.is(call, got, want);
        Due.is("digest() behind " + call, x.digest(), digestAhead);
    }

    private static void newObject() {
        UnderPromise x = new UnderPromise();
        Due.is("NONE", UnderPromise.NONE, -1);
        Due.is("BAD", UnderPromise.BAD, -2);
        Due.is("NO", UnderPromise.NO, -3);
        Due.is("FULL", UnderPromise.FULL, -4);
        for (int what = 0; what <= 8; what++) Due.is("count(" + what + ")", x.count(what), 0);
        for (int part = 0; part < 10; part++) Due.is("payer(" + part + ")", x.payer(part), NONE);
        for (int part = 0; part < 10; part++) Due.is("oddest(" + part + ", 300)", x.oddest(part, 300), NONE);
        Due.is("last(0)", x.last(0), BAD);
        Due.is("about(0, 0)", x.about(0, 0), NONE);
        Due.is("left()", x.left(), 0);
        Due.is("again(0)", x.again(0), 1);
        for (int land = 0; land < 4; land++) {
            Due.is("thing", x.thing(0, 10, 0, land), land);
            Due.is("last(" + land + ")", x.last(land), 33);
        }
        for (int land = 0; land < 4; land++) {
            x.thing(0, 10, 5000, land);
            Due.is("last(" + (land + 4) + ")", x.last(land + 4), 21);
        }
    }

    private static void thing() {
        UnderPromise x = new UnderPromise();
        Due.is("least", x.thing(0, 0, 0, 0), 0);
        Due.is("most", x.thing(7, 119, 5000, 3), 1);
        long digest = x.digest();
        int[][] wrong = {{-1, 0, 0, 0}, {8, 0, 0, 0}, {0, -1, 0, 0}, {0, 120, 0, 0}, {0, 0, -1, 0}, {0, 0, 5001, 0},
            {0, 0, 0, -1}, {0, 0, 0, 4}, {HUGE, HUGE, HUGE, HUGE}, {TINY, TINY, TINY, TINY}};
        for (int[] w : wrong) refused(x, "wrong thing", x.thing(w[0], w[1], w[2], w[3]), BAD, digest);
        Due.is("count(0)", x.count(0), 2);
        for (int i = 2; i < 60; i++) Due.is("thing " + i, x.thing(i % 8, i, i, i % 4), i);
        digest = x.digest();
        refused(x, "thing 60", x.thing(0, 0, 0, 0), FULL, digest);
        refused(x, "wrong thing 60", x.thing(0, 0, 0, 4), BAD, digest);
        Due.is("count(0)", x.count(0), 60);
    }

    private static void promise() {
        UnderPromise x = new UnderPromise();
        x.thing(0, 10, 100, 2);
        x.thing(0, 10, 100, 1);
        Due.is("claim let", x.claim(0, 0, 20, 20, 5), 0);
        Due.is("promise(2, 5, 600000)", x.promise(2, 5, 600000), 1);
        Due.is("last(0)", x.last(0), 14);
        Due.is("last(1)", x.last(1), 33);
        Due.is("the claim stays let", x.about(0, 5), 0);
        Due.is("and counted", x.count(2), 1);
        Due.is("promise(2, 120, 450)", x.promise(2, 120, 450), 1);
        Due.is("last(0)", x.last(0), 14);
        Due.is("promise(2, 0, 0)", x.promise(2, 0, 0), 1);
        Due.is("last(0)", x.last(0), NONE);
        Due.is("promise(2, 120, 600000)", x.promise(2, 120, 600000), 1);
        Due.is("last(0)", x.last(0), 129);
        Due.is("land -1", x.promise(-1, 1, 1), BAD);
        Due.is("land 4", x.promise(4, 1, 1), BAD);
        Due.is("months -1", x.promise(2, -1, 1), BAD);
        Due.is("months 121", x.promise(2, 121, 1), BAD);
        Due.is("miles -1", x.promise(2, 1, -1), BAD);
        Due.is("miles 600001", x.promise(2, 1, 600001), BAD);
        Due.is("all wrong", x.promise(HUGE, TINY, HUGE), BAD);
        Due.is("last(0), as ahead of the refused ones", x.last(0), 129);
    }

    private static void again() {
        UnderPromise x = new UnderPromise();
        Due.is("again(12)", x.again(12), 1);
        Due.is("again(13)", x.again(13), BAD);
        Due.is("again(-1)", x.again(-1), BAD);
        Due.is("again(HUGE)", x.again(HUGE), BAD);
        Due.is("again(TINY)", x.again(TINY), BAD);
        Due.is("again(0)", x.again(0), 12);
        Due.is("again(3)", x.again(3), 0);
        x.thing(0, 0, 0, 0);
        Due.is("claim", x.claim(0, 0, 10, 10, 0), 0);
        Due.is("3 behind", x.claim(0, 0, 13, 13, 0), 4);
        Due.is("4 behind", x.claim(0, 0, 14, 14, 0), 0);
        Due.is("again(0)", x.again(0), 3);
        Due.is("1 behind", x.claim(0, 0, 15, 15, 0), 0);
    }

    private static void promised() {
        UnderPromise x = new UnderPromise();
        x.promise(0, 10, 1000);
        x.thing(0, 50, 0, 0);
        x.thing(0, 50, 200, 0);
        x.thing(0, 50, 201, 0);
        Due.is("ahead of the sale", x.promised(0, 49), 0);
        Due.is("month 0", x.promised(0, 0), 0);
        Due.is("at the sale", x.promised(0, 50), 1);
        Due.is("last by months", x.promised(0, 59), 1);
        Due.is("behind the months", x.promised(0, 60), 0);
        Due.is("month 300", x.promised(0, 300), 0);
        Due.is("800 miles", x.promised(1, 54), 1);
        Due.is("1000 miles", x.promised(1, 55), 0);
        Due.is("804 miles", x.promised(2, 54), 1);
        Due.is("1005 miles", x.promised(2, 55), 0);
        x.promise(0, 10, 0);
        Due.is("no miles promised, none run", x.promised(0, 50), 0);
        x.promise(0, 0, 1000);
        Due.is("no months promised", x.promised(0, 50), 0);
        Due.is("month 301", x.promised(0, 301), BAD);
        Due.is("month -1", x.promised(0, -1), BAD);
        Due.is("thing 3", x.promised(3, 0), BAD);
        Due.is("thing -1", x.promised(-1, 0), BAD);
        Due.is("thing HUGE", x.promised(HUGE, HUGE), BAD);
    }

    private static void last() {
        UnderPromise x = new UnderPromise();
        x.promise(1, 10, 1000);
        int[] miles = {0, 1, 100, 111, 112, 999, 1000, 5000};
        int[] ages = {9, 9, 9, 9, 8, 1, 0, 0};
        for (int i = 0; i < miles.length; i++) {
            x.thing(0, 7, miles[i], 1);
            Due.is("last(" + i + ")", x.last(i), 7 + ages[i]);
        }
        x.promise(1, 1, 1);
        for (int i = 0; i < miles.length; i++) Due.is("last(" + i + ") of 1 month, 1 mile", x.last(i), 7);
        x.promise(1, 10, 5);
        Due.is("5 miles, 0 a month", x.last(0), 16);
        Due.is("5 miles, 1 a month", x.last(1), 11);
        x.promise(1, 10, 0);
        for (int i = 0; i < miles.length; i++) Due.is("last(" + i + ") of no miles", x.last(i), NONE);
        x.promise(1, 0, 10);
        for (int i = 0; i < miles.length; i++) Due.is("last(" + i + ") of no months", x.last(i), NONE);
        Due.is("last(-1)", x.last(-1), BAD);
        Due.is("last(8)", x.last(8), BAD);
        Due.is("last(HUGE)", x.last(HUGE), BAD);
        Due.is("last(TINY)", x.last(TINY), BAD);
    }

    private static void claimJudged() {
        UnderPromise x = new UnderPromise();
        x.thing(0, 10, 0, 0);
        x.thing(0, 10, 0, 0);
        Due.is("before", x.claim(0, 3, 9, 9, 0), 1);
        Due.is("let", x.claim(0, 3, 20, 20, 0), 0);
        Due.is("twice", x.claim(0, 3, 20, 25, 0), 2);
        Due.is("another part", x.claim(0, 4, 20, 20, 0), 0);
        Due.is("another thing", x.claim(1, 3, 20, 20, 0), 0);
        Due.is("again", x.claim(0, 3, 21, 21, 0), 4);
        Due.is("one that was not let does not make twice", x.claim(0, 3, 21, 21, 0), 4);
        Due.is("nor again", x.claim(0, 3, 22, 22, 0), 0);
        Due.is("ahead of one let", x.claim(0, 3, 19, 19, 0), 0);
        Due.is("last month promised", x.claim(1, 0, 33, 33, 0), 0);
        Due.is("out", x.claim(1, 0, 34, 300, 0), 3);
        Due.is("out, month 300", x.claim(1, 0, 300, 300, 0), 3);
        Due.is("at the sale", x.claim(1, 9, 10, 10, 10000), 0);
        Due.is("count(1)", x.count(1), 13);
    }

    private static void claimJudgedInOrder() {
        UnderPromise x = new UnderPromise();
        x.thing(0, 10, 0, 0);
        x.again(12);
        Due.is("let", x.claim(0, 0, 15, 15, 0), 0);
        Due.is("let ahead of it", x.claim(0, 0, 12, 12, 0), 0);
        Due.is("twice goes ahead of again", x.claim(0, 0, 15, 15, 0), 2);
        x.promise(0, 2, 600000);
        Due.is("twice goes ahead of out", x.claim(0, 0, 15, 15, 0), 2);
        Due.is("out goes ahead of again", x.claim(0, 0, 16, 16, 0), 3);
        Due.is("before goes ahead of out", x.claim(0, 0, 0, 0, 0), 1);
    }

    private static void claimRefused() {
        UnderPromise x = new UnderPromise();
        Due.is("no thing", x.claim(0, 0, 0, 0, 0), BAD);
        x.thing(0, 0, 0, 0);
        long digest = x.digest();
        int[][] wrong = {{-1, 0, 0, 0, 0}, {1, 0, 0, 0, 0}, {0, -1, 0, 0, 0}, {0, 10, 0, 0, 0}, {0, 0, -1, 0, 0},
            {0, 0, 301, 301, 0}, {0, 0, 0, 301, 0}, {0, 0, 5, 4, 0}, {0, 0, 0, -1, 0}, {0, 0, 0, 0, -1},
            {0, 0, 0, 0, 10001}, {HUGE, HUGE, HUGE, HUGE, HUGE}, {TINY, TINY, TINY, TINY, TINY}};
        for (int[] w : wrong) refused(x, "wrong claim", x.claim(w[0], w[1], w[2], w[3], w[4]), BAD, digest);
        Due.is("count(1)", x.count(1), 0);
        for (int i = 0; i < 100; i++) Due.is("claim " + i, x.claim(0, 0, 300, 300, 10000), 3);
        digest = x.digest();
        refused(x, "claim 100", x.claim(0, 0, 0, 0, 0), FULL, digest);
        refused(x, "wrong claim 100", x.claim(0, 0, 5, 4, 0), BAD, digest);
        Due.is("count(1)", x.count(1), 100);
    }

    private static void about() {
        UnderPromise x = new UnderPromise();
        x.thing(0, 10, 0, 0);
        x.thing(0, 20, 0, 0);
        x.claim(1, 7, 21, 33, 444);
        x.claim(1, 8, 19, 300, 10000);
        int[][] due = {{1, 7, 21, 33, 444, 0, 12}, {1, 8, 19, 300, 10000, 1, 281}};
        for (int claim = 0; claim < 2; claim++) {
            for (int what = 0; what <= 6; what++) {
                Due.is("about(" + claim + ", " + what + ")", x.about(claim, what), due[claim][what]);
            }
            Due.is("about(.., 7)", x.about(claim, 7), BAD);
            Due.is("about(.., -1)", x.about(claim, -1), BAD);
        }
        Due.is("about(2, 0)", x.about(2, 0), NONE);
        Due.is("about(99, 6)", x.about(99, 6), NONE);
        Due.is("about(100, 6)", x.about(100, 6), NONE);
        Due.is("about(HUGE, 0)", x.about(HUGE, 0), NONE);
        Due.is("about(HUGE, 7)", x.about(HUGE, 7), BAD);
        Due.is("about(-1, 0)", x.about(-1, 0), BAD);
        Due.is("about(TINY, 0)", x.about(TINY, 0), BAD);
        Due.is("about(0, HUGE)", x.about(0, HUGE), BAD);
    }

    private static UnderPromise soldTwoMonths() {
        UnderPromise x = new UnderPromise();
        x.thing(0, 10, 0, 0);
        x.thing(1, 10, 0, 0);
        x.thing(1, 11, 0, 0);
        x.claim(0, 0, 12, 14, 0);
        x.claim(0, 1, 12, 15, 0);
        x.claim(1, 0, 12, 16, 0);
        x.claim(2, 0, 13, 16, 0);
        x.claim(2, 0, 13, 14, 0);
        x.claim(2, 1, 12, 14, 0);
        return x;
    }

    private static void table() {
        UnderPromise x = soldTwoMonths();
        Due.is("table(10, 2, 13)", x.table(10, 2, 13), 0);
        Due.is("table(10, 2, 14)", x.table(10, 2, 14), 1);
        Due.is("table(10, 2, 15)", x.table(10, 2, 15), 2);
        Due.is("table(10, 2, 300)", x.table(10, 2, 300), 3);
        Due.is("table(11, 2, 300), that told twice is not in it", x.table(11, 2, 300), 1);
        Due.is("table(11, 1, 300)", x.table(11, 1, 300), 1);
        Due.is("table(12, 0, 300)", x.table(12, 0, 300), 0);
        Due.is("table(119, 300, 300)", x.table(119, 300, 300), 0);
        Due.is("table(0, 0, 0)", x.table(0, 0, 0), 0);
        int[][] wrong = {{-1, 0, 0}, {120, 0, 0}, {0, -1, 0}, {0, 301, 0}, {0, 0, -1}, {0, 0, 301}, {HUGE, HUGE, HUGE}};
        for (int[] w : wrong) Due.is("wrong table", x.table(w[0], w[1], w[2]), BAD);
    }

    private static void exposed() {
        UnderPromise x = soldTwoMonths();
        x.promise(3, 5, 100);
        x.thing(0, 10, 30, 3);
        Due.is("exposed(0, 9)", x.exposed(0, 9), 0);
        Due.is("exposed(0, 10)", x.exposed(0, 10), 3);
        Due.is("exposed(0, 11)", x.exposed(0, 11), 4);
        Due.is("exposed(3, 12)", x.exposed(3, 12), 0);
        Due.is("exposed(3, 13)", x.exposed(3, 13), 3);
        Due.is("exposed(3, 300)", x.exposed(3, 300), 4);
        Due.is("exposed(4, 300), 120 miles", x.exposed(4, 300), 3);
        Due.is("exposed(23, 300)", x.exposed(23, 300), 3);
        Due.is("exposed(24, 300)", x.exposed(24, 300), 0);
        Due.is("exposed(300, 300)", x.exposed(300, 300), 0);
        Due.is("a -1", x.exposed(-1, 0), BAD);
        Due.is("a 301", x.exposed(301, 0), BAD);
        Due.is("by -1", x.exposed(0, -1), BAD);
        Due.is("by 301", x.exposed(0, 301), BAD);
        Due.is("both wrong", x.exposed(HUGE, TINY), BAD);
    }

    private static void rate() {
        UnderPromise x = soldTwoMonths();
        x.thing(0, 100, 0, 0);
        rateIs(x, 2, 300, 1, 1);
        rateIs(x, 2, 15, 2, 3);
        rateIs(x, 2, 13, 0, 1);
        rateIs(x, 1, 300, 1, 4);
        x.claim(1, 5, 11, 11, 0);
        rateIs(x, 1, 300, 1, 2);
        rateIs(x, 1, 11, 1, 2);
        rateIs(x, 1, 12, 1, 3);
        rateIs(x, 0, 300, 0, 1);
        Due.is("none is exposed yet", x.rate(2, 11, 0), NO);
        Due.is("none is exposed so late", x.rate(24, 300, 1), NO);
        Due.is("rate(300, 300, 0)", x.rate(300, 300, 0), NO);
        x.promise(0, 2, 600000);
        Due.is("claims let, but none promised any more", x.rate(2, 300, 0), NO);
        int[][] wrong = {{-1, 0, 0}, {301, 0, 0}, {0, -1, 0}, {0, 301, 0}, {0, 0, -1}, {0, 0, 2}, {HUGE, TINY, HUGE}};
        for (int[] w : wrong) Due.is("wrong rate", x.rate(w[0], w[1], w[2]), BAD);
        Due.is("bad goes ahead of no", x.rate(24, 300, 2), BAD);
    }

    private static void rateIs(UnderPromise x, int a, int by, int above, int below) {
        Due.is("rate(" + a + ", " + by + ", 0)", x.rate(a, by, 0), above);
        Due.is("rate(" + a + ", " + by + ", 1)", x.rate(a, by, 1), below);
    }

    /** Ten parts of one thing fail in month 20, told with the delays given, and more later on. */
    private static UnderPromise toldLate() {
        UnderPromise x = new UnderPromise();
        x.thing(0, 10, 0, 0);
        x.promise(0, 120, 600000);
        int[] delays = {0, 0, 1, 3, 3, 3, 11, 12, 5, 10};
        for (int part = 0; part < 10; part++) x.claim(0, part, 20, 20 + delays[part], 0);
        for (int part = 0; part < 7; part++) x.claim(0, part, 40, 40 + part / 3, 0);
        return x;
    }

    private static void delays() {
        UnderPromise x = toldLate();
        int[] due = {2, 1, 0, 3, 0, 1, 0, 0, 0, 0, 1, 1};
        for (int d = 0; d < 12; d++) {
            Due.is("delays(31, " + d + ")", x.delays(31, d), due[d]);
            Due.is("delays(30, " + d + "), a month too soon", x.delays(30, d), 0);
            Due.is("delays(50, " + d + ")", x.delays(50, d), due[d]);
        }
        Due.is("delays(51, 0)", x.delays(51, 0), 5);
        Due.is("delays(51, 1)", x.delays(51, 1), 4);
        Due.is("delays(300, 2)", x.delays(300, 2), 1);
        x.claim(0, 0, 20, 20, 0);
        Due.is("one told twice is not let", x.delays(31, 0), 2);
        Due.is("t -1", x.delays(-1, 0), BAD);
        Due.is("t 301", x.delays(301, 0), BAD);
        Due.is("d -1", x.delays(50, -1), BAD);
        Due.is("d 12", x.delays(50, 12), BAD);
        Due.is("both wrong", x.delays(HUGE, TINY), BAD);
    }

    private static void undone() {
        UnderPromise x = toldLate();
        Due.is("3 come of 9, 2 of them at once", x.undone(40, 40), 13);
        Due.is("6 come, 3 of 9", x.undone(40, 41), 18);
        Due.is("7 come, 3 of 9", x.undone(40, 42), 21);
        Due.is("7 come, 6 of 9, cut", x.undone(40, 43), 10);
        Due.is("7 come, 8 of 9, cut", x.undone(40, 50), 7);
        Due.is("7 come, 11 months old", x.undone(40, 51), 7);
        Due.is("nothing came", x.undone(41, 45), 0);
        Due.is("a month so old counts all delays", x.undone(20, 32), 10);
        Due.is("11 months old, one is not told yet", x.undone(20, 31), 9);
        Due.is("no n(d) yet", x.undone(20, 30), NONE);
        Due.is("no n(d) yet, nothing came", x.undone(25, 30), NONE);
        Due.is("nothing came, long ago", x.undone(0, 11), 0);
        Due.is("undone(0, 10)", x.undone(0, 10), NONE);
        Due.is("undone(300, 300)", x.undone(300, 300), 0);
        Due.is("f behind t", x.undone(41, 40), BAD);
        Due.is("f -1", x.undone(-1, 40), BAD);
        Due.is("t 301", x.undone(40, 301), BAD);
        Due.is("f 301", x.undone(301, 301), BAD);
        Due.is("both wrong", x.undone(TINY, HUGE), BAD);
        UnderPromise late = new UnderPromise();
        late.thing(0, 0, 0, 0);
        late.claim(0, 0, 0, 5, 0);
        late.claim(0, 0, 15, 15, 0);
        Due.is("delays there, but none so short", late.undone(15, 19), NONE);
        Due.is("and one as short", late.undone(15, 20), 1);
    }

    private static void chance() {
        UnderPromise x = new UnderPromise();
        Due.is("no things", x.chance(0, 0, 0, 0), NO);
        for (int i = 0; i < 5; i++) x.thing(i < 2 ? 3 : 5, 119, 0, 0);
        x.claim(0, 6, 120, 125, 0);
        x.claim(0, 6, 130, 135, 0);
        x.claim(1, 6, 120, 126, 0);
        chanceIs(x, 3, 6, 124, 1, 1);
        chanceIs(x, 3, 6, 125, 2, 5);
        chanceIs(x, 3, 6, 126, 1, 10);
        chanceIs(x, 5, 6, 300, 1, 1);
        chanceIs(x, 3, 7, 300, 1, 1);
        Due.is("no thing of it", x.chance(4, 6, 300, 0), NO);
        int[][] wrong = {{-1, 0, 0, 0}, {8, 0, 0, 0}, {3, -1, 0, 0}, {3, 10, 0, 0}, {3, 0, -1, 0}, {3, 0, 301, 0},
            {3, 0, 0, -1}, {3, 0, 0, 2}, {4, 0, 0, 2}, {HUGE, HUGE, HUGE, HUGE}, {TINY, TINY, TINY, TINY}};
        for (int[] w : wrong) Due.is("wrong chance", x.chance(w[0], w[1], w[2], w[3]), BAD);
    }

    private static void chanceIs(UnderPromise x, int batch, int part, int by, long above, long below) {
        String call = "chance(" + batch + ", " + part + ", " + by + ", ";
        Due.is(call + "0)", x.chance(batch, part, by, 0), above);
        Due.is(call + "1)", x.chance(batch, part, by, 1), below);
    }

    /** Every choice of n of M things is looked at, with the first K hit ones. */
    private static void chanceByChoices() {
        for (int all = 1; all <= 8; all++) {
            for (int some = 1; some <= all; some++) {
                for (int hit = 0; hit <= all; hit++) {
                    for (int both = Math.max(0, hit + some - all); both <= Math.min(hit, some); both++) {
                        chanceOfChoices(all, some, hit, both);
                    }
                }
            }
        }
    }

    private static void chanceOfChoices(int all, int some, int hit, int both) {
        UnderPromise x = new UnderPromise();
        for (int i = 0; i < all; i++) x.thing(i < some ? 1 : 0, 0, 0, 0);
        for (int i = 0; i < both; i++) x.claim(i, 2, 0, 0, 0);
        for (int i = 0; i < hit - both; i++) x.claim(some + i, 2, 0, 0, 0);
        long choices = 0, odd = 0;
        for (int bits = 0; bits < 1 << all; bits++) {
            if (Integer.bitCount(bits) != some) continue;
            choices++;
            if (Integer.bitCount(bits & (1 << hit) - 1) >= both) odd++;
        }
        long common = odd;
        while (odd % common != 0 || choices % common != 0) common--;
        chanceIs(x, 1, 2, 0, odd / common, choices / common);
    }

    private static void chanceOfMany() {
        UnderPromise x = new UnderPromise();
        for (int i = 0; i < 60; i++) x.thing(i < 30 ? 0 : 1, 0, 0, 0);
        for (int i = 0; i < 30; i++) x.claim(i, 0, 0, 0, 0);
        chanceIs(x, 0, 0, 0, 1, 118264581564861424L);
        chanceIs(x, 1, 0, 0, 1, 1);
        x.claim(30, 0, 0, 0, 0);
        // 31 of 60 hit, all 30 of the batch: C(31, 30) / C(60, 30), where 31 goes into C(60, 30)
        chanceIs(x, 0, 0, 0, 1, 118264581564861424L / 31);
    }

    private static void oddest() {
        UnderPromise x = new UnderPromise();
        Due.is("no things", x.oddest(0, 0), NONE);
        for (int i = 0; i < 9; i++) x.thing(2 + 2 * (i / 3), 0, 0, 0);
        Due.is("like ones: the least number", x.oddest(0, 300), 2);
        x.claim(3, 0, 5, 7, 0);
        Due.is("one of batch 4", x.oddest(0, 300), 4);
        Due.is("not told yet", x.oddest(0, 6), 2);
        Due.is("of another part", x.oddest(1, 300), 2);
        x.claim(6, 0, 5, 9, 0);
        Due.is("4 and 6 are like", x.oddest(0, 300), 4);
        x.claim(7, 0, 5, 9, 0);
        Due.is("6 has two", x.oddest(0, 9), 6);
        Due.is("not told yet", x.oddest(0, 8), 4);
        Due.is("part -1", x.oddest(-1, 0), BAD);
        Due.is("part 10", x.oddest(10, 0), BAD);
        Due.is("by -1", x.oddest(0, -1), BAD);
        Due.is("by 301", x.oddest(0, 301), BAD);
        Due.is("both wrong", x.oddest(HUGE, TINY), BAD);
        Due.is("bad goes ahead of none", new UnderPromise().oddest(10, 0), BAD);
    }

    /** Chances whose products across do not fit a long, and like ones whose counts, as doubles, would differ. */
    private static void oddestExactly() {
        int[][] less = {{23, 11, 21, 10, 1, 0}, {19, 10, 21, 11, 5, 2}, {15, 12, 42, 32, 3, 1}, {17, 13, 40, 30, 3, 2},
            {15, 12, 27, 21, 18, 13}};
        for (int[] w : less) {
            Due.is("the first is the odder, ahead", batches(w[0], w[1], w[2], w[3], w[4], w[5]).oddest(0, 0), 0);
            Due.is("the first is the odder, behind", batches(w[2], w[3], w[0], w[1], w[4], w[5]).oddest(0, 0), 1);
        }
        int[][] like = {{8, 1, 24, 2, 27, 0}, {23, 14, 25, 15, 12, 0}, {8, 4, 52, 26, 0, 0}, {15, 15, 40, 39, 5, 4}};
        for (int[] w : like) {
            Due.is("like ones", batches(w[0], w[1], w[2], w[3], w[4], w[5]).oddest(0, 0), 0);
            Due.is("like ones, turned", batches(w[2], w[3], w[0], w[1], w[4], w[5]).oddest(0, 0), 0);
        }
    }

    /** All few things in three batches: their chances are small enough for products across. */
    private static void oddestOfFew() {
        for (int first = 1; first <= 5; first++) {
            for (int second = 1; second <= 5; second++) {
                for (int third = 0; third <= 4; third++) {
                    for (int hits = 0; hits < (first + 1) * (second + 1) * (third + 1); hits++) {
                        int hit = hits % (first + 1), hitNext = hits / (first + 1) % (second + 1);
                        int hitLast = hits / (first + 1) / (second + 1);
                        UnderPromise x = batches(first, hit, second, hitNext, third, hitLast);
                        Due.is("oddest of " + first + " " + second + " " + third + ", hits " + hits,
                            x.oddest(0, 0), leastByProducts(x));
                    }
                }
            }
        }
    }

    private static int leastByProducts(UnderPromise x) {
        int least = 0;
        for (int batch = 1; batch < 8; batch++) {
            if (x.chance(batch, 0, 0, 0) == NO) continue;
            long own = x.chance(batch, 0, 0, 0) * x.chance(least, 0, 0, 1);
            long others = x.chance(least, 0, 0, 0) * x.chance(batch, 0, 0, 1);
            if (own < others) least = batch;
        }
        return least;
    }

    /** Three BATCHES: of each so many THINGS, and so many of these hit. */
    private static UnderPromise batches(int... sizesAndHits) {
        UnderPromise x = new UnderPromise();
        for (int batch = 0; batch < 3; batch++) {
            for (int i = 0; i < sizesAndHits[2 * batch]; i++) {
                int thing = x.thing(batch, 0, 0, 0);
                if (i < sizesAndHits[2 * batch + 1]) x.claim(thing, 0, 0, 0, 0);
            }
        }
        return x;
    }

    private static void under() {
        UnderPromise x = new UnderPromise();
        long digest = x.digest();
        for (int part = 0; part < 10; part++) {
            refused(x, "under itself", x.under(part, part), NO, digest);
        }
        for (int part = 0; part < 9; part++) Due.is("a row of ten", x.under(part, part + 1), 1);
        digest = x.digest();
        for (int part = 0; part < 10; part++) refused(x, "a ring", x.under(9, part), NO, digest);
        refused(x, "a ring within", x.under(5, 2), NO, digest);
        Due.is("the same again", x.under(5, 6), 1);
        Due.is("over one", x.under(5, 7), 1);
        Due.is("none", x.under(5, NONE), 1);
        Due.is("no ring any more", x.under(9, 5), 1);
        refused(x, "now it is one", x.under(5, 6), NO, x.digest());
        digest = x.digest();
        int[][] wrong = {{-1, 0}, {10, 0}, {0, -2}, {0, 10}, {-1, -1}, {10, 10}, {HUGE, HUGE}, {TINY, TINY}};
        for (int[] w : wrong) refused(x, "wrong under", x.under(w[0], w[1]), BAD, digest);
    }

    private static void maker() {
        UnderPromise x = new UnderPromise();
        Due.is("least", x.maker(0, 0, 0), 1);
        Due.is("most", x.maker(9, 5, 100), 1);
        Due.is("payer(0)", x.payer(0), 0);
        Due.is("payer(9)", x.payer(9), 5);
        long digest = x.digest();
        int[][] wrong = {{-1, 0, 0}, {10, 0, 0}, {0, -2, 0}, {0, 6, 0}, {0, 0, -1}, {0, 0, 101}, {0, -1, 101},
            {HUGE, HUGE, HUGE}, {TINY, TINY, TINY}};
        for (int[] w : wrong) refused(x, "wrong maker", x.maker(w[0], w[1], w[2]), BAD, digest);
        x.maker(0, 0, 1);
        Due.holds("the share is in the digest", x.digest() != digest);
        Due.is("none", x.maker(9, NONE, 100), 1);
        Due.is("payer(9)", x.payer(9), NONE);
    }

    private static void payer() {
        UnderPromise x = new UnderPromise();
        for (int part = 0; part < 9; part++) x.under(part, part + 1);
        Due.is("nobody", x.payer(0), NONE);
        x.maker(9, 4, 0);
        for (int part = 0; part < 10; part++) Due.is("payer(" + part + ")", x.payer(part), 4);
        x.maker(4, 2, 50);
        for (int part = 0; part < 10; part++) Due.is("payer(" + part + ")", x.payer(part), part <= 4 ? 2 : 4);
        x.under(4, NONE);
        x.maker(4, NONE, 50);
        for (int part = 0; part < 10; part++) Due.is("payer(" + part + ")", x.payer(part), part <= 4 ? NONE : 4);
        Due.is("payer(-1)", x.payer(-1), BAD);
        Due.is("payer(10)", x.payer(10), BAD);
        Due.is("payer(HUGE)", x.payer(HUGE), BAD);
        Due.is("payer(TINY)", x.payer(TINY), BAD);
    }

    private static UnderPromise costs() {
        UnderPromise x = new UnderPromise();
        x.thing(0, 0, 0, 0);
        x.claim(0, 1, 5, 5, 199);
        x.claim(0, 1, 5, 5, 10000);
        x.claim(0, 2, 5, 5, 199);
        x.claim(0, 3, 5, 5, 7);
        x.under(1, 0);
        x.under(2, 0);
        return x;
    }

    private static void pays() {
        UnderPromise x = costs();
        Due.is("nobody", x.pays(0), 0);
        x.maker(0, 5, 50);
        Due.is("cut for each claim: 99 and 99", x.pays(5), 198);
        x.maker(1, 0, 33);
        Due.is("its own maker, its own share", x.pays(0), 65);
        Due.is("the one above", x.pays(5), 99);
        x.maker(3, 5, 100);
        Due.is("and a whole one", x.pays(5), 106);
        x.maker(3, 5, 0);
        Due.is("and none of it", x.pays(5), 99);
        x.maker(1, NONE, 100);
        Due.is("none of its own: that of the one above", x.pays(5), 198);
        x.maker(0, 4, 100);
        Due.is("two parts under it", x.pays(4), 398);
        Due.is("pays(-1)", x.pays(-1), BAD);
        Due.is("pays(6)", x.pays(6), BAD);
        Due.is("pays(HUGE)", x.pays(HUGE), BAD);
        Due.is("pays(TINY)", x.pays(TINY), BAD);
    }

    private static void left() {
        UnderPromise x = costs();
        Due.is("all of it", x.left(), 405);
        x.maker(0, 5, 50);
        Due.is("405 less 198", x.left(), 207);
        x.maker(1, 0, 33);
        Due.is("405 less 99 less 65", x.left(), 241);
        x.maker(3, 1, 100);
        Due.is("and less 7", x.left(), 234);
        x.maker(0, 5, 100);
        x.maker(1, 5, 100);
        Due.is("nothing", x.left(), 0);
        UnderPromise most = new UnderPromise();
        for (int i = 0; i < 10; i++) most.thing(0, 0, 0, 0);
        for (int i = 0; i < 100; i++) most.claim(i / 10, i % 10, 0, 0, 10000);
        Due.is("a hundred dear ones", most.left(), 1000000);
    }

    private static UnderPromise fleet() {
        UnderPromise x = new UnderPromise();
        for (int i = 0; i < 16; i++) x.thing(i / 2, 8 * i - i / 15, 0, 0);
        x.under(1, 0);
        x.under(2, 1);
        x.claim(4, 2, 32, 300, 0);
        x.claim(5, 1, 41, 41, 0);
        x.claim(6, 0, 48, 48, 0);
        x.claim(7, 3, 56, 56, 0);
        x.claim(8, 2, 0, 0, 0);
        return x;
    }

    private static void called() {
        UnderPromise x = fleet();
        Due.is("by rows", x.called(0, 255, 0, 119), 13);
        Due.is("part 1", x.called(1, 255, 0, 119), 14);
        Due.is("part 2", x.called(2, 255, 0, 119), 15);
        Due.is("part 3", x.called(3, 255, 0, 119), 15);
        Due.is("part 4", x.called(4, 255, 0, 119), 16);
        Due.is("batch 0", x.called(0, 1, 0, 119), 2);
        Due.is("batch 2", x.called(0, 4, 0, 119), 0);
        Due.is("batches 2, 3", x.called(0, 12, 0, 119), 1);
        Due.is("batch 7", x.called(0, 128, 0, 119), 2);
        Due.is("months 0 .. 0", x.called(0, 255, 0, 0), 1);
        Due.is("months 1 .. 7", x.called(0, 255, 1, 7), 0);
        Due.is("months 8 .. 16", x.called(0, 255, 8, 16), 2);
        Due.is("months 119 .. 119", x.called(0, 255, 119, 119), 1);
        x.under(1, NONE);
        Due.is("no row any more", x.called(0, 255, 0, 119), 15);
        for (int[] w : wrongCalls()) Due.is("wrong called", x.called(w[0], w[1], w[2], w[3]), BAD);
    }

    private static int[][] wrongCalls() {
        return new int[][] {{-1, 255, 0, 119}, {10, 255, 0, 119}, {0, 0, 0, 119}, {0, 256, 0, 119}, {0, -1, 0, 119},
            {0, 255, -1, 119}, {0, 255, 0, 120}, {0, 255, 120, 120}, {0, 255, 0, -1}, {0, 255, 6, 5},
            {HUGE, HUGE, HUGE, HUGE}, {TINY, TINY, TINY, TINY}};
    }

    private static void calledAt() {
        UnderPromise x = fleet();
        int[] due = {0, 1, 2, 3, 7, 8, 9, 10, 11, 12, 13, 14, 15, NONE, NONE};
        for (int i = 0; i < due.length; i++) {
            Due.is("calledAt(0, 255, 0, 119, " + i + ")", x.calledAt(0, 255, 0, 119, i), due[i]);
        }
        Due.is("batches 3, 7", x.calledAt(0, 136, 0, 119, 1), 14);
        Due.is("months 20 .. 60", x.calledAt(0, 255, 20, 60, 1), 7);
        Due.is("HUGE", x.calledAt(0, 255, 0, 119, HUGE), NONE);
        Due.is("i -1", x.calledAt(0, 255, 0, 119, -1), BAD);
        Due.is("i TINY", x.calledAt(0, 255, 0, 119, TINY), BAD);
        for (int[] w : wrongCalls()) Due.is("wrong calledAt", x.calledAt(w[0], w[1], w[2], w[3], 0), BAD);
        for (int i = 16; i < 60; i++) x.thing(0, 0, 0, 0);
        Due.is("the last thing of all", x.calledAt(0, 255, 0, 119, 56), 59);
        Due.is("behind it", x.calledAt(0, 255, 0, 119, 57), NONE);
    }

    private static void count() {
        UnderPromise x = new UnderPromise();
        for (int i = 0; i < 3; i++) x.thing(0, 10, 0, 0);
        x.claim(0, 0, 20, 20, 1000);
        x.claim(0, 1, 20, 20, 200);
        x.claim(1, 1, 20, 300, 30);
        x.claim(0, 0, 9, 20, 5000);
        x.claim(0, 0, 20, 20, 5000);
        x.claim(0, 1, 20, 20, 5000);
        for (int i = 0; i < 3; i++) x.claim(2, 0, 200, 200, 5000);
        for (int i = 0; i < 4; i++) x.claim(0, 0, 21, 21, 5000);
        int[] due = {3, 13, 3, 1, 2, 3, 4, 2, 1230};
        for (int what = 0; what <= 8; what++) Due.is("count(" + what + ")", x.count(what), due[what]);
        UnderPromise one = new UnderPromise();
        for (int part = 0; part < 10; part++) {
            one.thing(0, 0, 0, 0);
            one.claim(part, part, 0, 300, 0);
            Due.is("count(7), each by a part of its own", one.count(7), part + 1);
        }
        Due.is("count(-1)", x.count(-1), BAD);
        Due.is("count(9)", x.count(9), BAD);
        Due.is("count(HUGE)", x.count(HUGE), BAD);
        Due.is("count(TINY)", x.count(TINY), BAD);
    }

    private static void digest() {
        UnderPromise x = new UnderPromise();
        Due.is("of a new one", x.digest(), folded(new long[9], rowsOfNone()));
        x.thing(3, 10, 100, 2);
        x.thing(4, 11, 0, 1);
        x.promise(1, 0, 0);
        x.claim(0, 6, 12, 15, 99);
        x.claim(1, 7, 12, 12, 50);
        x.under(0, 3);
        x.maker(3, 4, 55);
        x.maker(5, NONE, 7);
        long[] counts = {2, 2, 1, 0, 0, 1, 0, 1, 99};
        long[] rest = {3, 10, 100, 2, 33, 4, 11, 0, 1, -1, 0, 6, 12, 15, 99, 0, 3, 1, 7, 12, 12, 50, 3, 0};
        long[] parts = rowsOfNone();
        parts[0] = 3;
        parts[10] = 4;
        parts[11] = 55;
        parts[17] = 7;
        long[] all = new long[rest.length + parts.length];
        System.arraycopy(rest, 0, all, 0, rest.length);
        System.arraycopy(parts, 0, all, rest.length, parts.length);
        Due.is("of some", x.digest(), folded(counts, all));
        Due.is("twice", x.digest(), folded(counts, all));
    }

    private static long[] rowsOfNone() {
        long[] rows = new long[30];
        for (int part = 0; part < 10; part++) rows[3 * part] = rows[3 * part + 1] = NONE;
        return rows;
    }

    private static long folded(long[] first, long[] then) {
        long h = 199;
        for (long v : first) h = 31 * h + v;
        for (long v : then) h = 31 * h + v;
        return h;
    }
}

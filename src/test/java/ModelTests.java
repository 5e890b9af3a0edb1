/**
 * Long runs of calls, always the same ones, on the class and on the Model: every answer must be alike. What a run
 * chooses its numbers by it asks of the Model, since an object is promised for 512 calls only.
 */
public final class ModelTests {
    private static final int RUNS = 400, CALLS = 512, METHODS = 23;

    private long seed;
    private final UnderPromise x = new UnderPromise();
    private final Model y = new Model();
    /** How often, of a hundred numbers, one is not as told. */
    private final int wild;

    private ModelTests(int run) {
        seed = 1000003L * run + 17;
        wild = run % 4 == 0 ? 12 : run % 4 == 1 ? 3 : 0;
    }

    public static void main(String[] args) {
        Due.test("whole runs are as the model's", () -> {
            for (int run = 0; run < RUNS; run++) new ModelTests(run).wholeRun(run);
        });
        Due.test("full runs are as the model's", () -> {
            for (int run = 0; run < 40; run++) new ModelTests(run).fullRun(run);
        });
        Due.end();
    }

    private int below(int bound) {
        seed = seed * 6364136223846793005L + 1442695040888963407L;
        return (int) ((seed >>> 33) % bound);
    }

    private int from(int least, int most) {
        if (below(100) >= wild) return least + below(most - least + 1);
        int[] odd = {least - 1, most + 1, Integer.MAX_VALUE, Integer.MIN_VALUE, -1, -2, least, most};
        return odd[below(odd.length)];
    }

    private int thing() {
        return from(0, Math.max(0, y.count(0) - 1));
    }

    private void same(String call, long got, long want) {
        Due.is(call, got, want);
    }

    private void wholeRun(int run) {
        int things = 1 + below(20);
        for (int i = 0; i < things; i++) newThing(run);
        for (int i = things; i < CALLS - 1; i++) oneCall(run, below(METHODS + 12));
        same("run " + run + " digest()", x.digest(), y.digest());
    }

    /** Sixty things, a hundred claims, then all chances and all that is called back. */
    private void fullRun(int run) {
        for (int i = 0; i < 61; i++) newThing(run);
        for (int i = 0; i < 101; i++) newClaim(run);
        for (int i = 0; i < 8; i++) newUnder(run);
        for (int i = 0; i < 8; i++) newMaker(run);
        for (int i = 0; i < 300; i++) oneCall(run, 7 + below(METHODS - 7));
        same("run " + run + " digest()", x.digest(), y.digest());
    }

    private void newThing(int run) {
        int batch = from(0, 1 + run % 7), month = from(0, run % 3 == 0 ? 119 : 9), miles = from(0, 5000), land = from(0, 3);
        same("run " + run + " thing", x.thing(batch, month, miles, land), y.thing(batch, month, miles, land));
    }

    private void newClaim(int run) {
        int thing = thing(), part = from(0, run % 5 == 0 ? 9 : 2), cost = from(0, 10000);
        int sold = Math.max(0, Math.min(119, y.last(thing) - below(20)));
        int month = below(3) == 0 ? from(0, 300) : from(0, sold + 15);
        int told = Math.min(300, Math.max(0, month)) + from(0, 13);
        same("run " + run + " claim", x.claim(thing, part, month, told, cost), y.claim(thing, part, month, told, cost));
    }

    private void newUnder(int run) {
        int part = from(0, 9), above = from(-1, 9);
        same("run " + run + " under", x.under(part, above), y.under(part, above));
    }

    private void newMaker(int run) {
        int part = from(0, 9), maker = from(-1, 5), share = from(0, 100);
        same("run " + run + " maker", x.maker(part, maker, share), y.maker(part, maker, share));
    }

    private void newPromise(int run) {
        int land = from(0, 3), months = from(0, 120), miles = from(0, 600000);
        same("run " + run + " promise", x.promise(land, months, miles), y.promise(land, months, miles));
    }

    private void oneCall(int run, int method) {
        switch (method) {
            case 0 -> newThing(run);
            case 1 -> newPromise(run);
            case 2 -> newUnder(run);
            case 3 -> newMaker(run);
            case 4 -> {
                int g = from(0, 12);
                same("run " + run + " again", x.again(g), y.again(g));
            }
            case 5, 6 -> same("run " + run + " digest()", x.digest(), y.digest());
            case 7, 8, 9, 10, 11 -> askThings(run, method);
            case 12, 13, 14, 15, 16, 17 -> askClaims(run, method);
            case 18, 19, 20, 21, 22 -> askParts(run, method);
            default -> newClaim(run);
        }
    }

    private void askThings(int run, int method) {
        int thing = thing(), month = from(0, 300), age = from(0, below(2) == 0 ? 300 : 12), what = from(0, 1);
        String call = "run " + run + " (" + thing + ", " + month + ", " + age + ", " + what + ") ";
        switch (method) {
            case 7 -> same(call + "promised", x.promised(thing, month), y.promised(thing, month));
            case 8 -> same(call + "last", x.last(thing), y.last(thing));
            case 9 -> same(call + "exposed", x.exposed(age, month), y.exposed(age, month));
            case 10 -> same(call + "rate", x.rate(age, month, what), y.rate(age, month, what));
            default -> {
                int counted = from(0, 8);
                same(call + "count", x.count(counted), y.count(counted));
            }
        }
    }

    private void askClaims(int run, int method) {
        int claim = from(0, 100), what = from(0, 6), s = from(0, 119), a = from(0, 20), by = from(0, below(2) == 0 ? 300 : 60);
        int batch = from(0, 7), part = from(0, below(2) == 0 ? 9 : 2), d = from(0, 11), f = from(0, Math.max(0, by));
        String call = "run " + run + " (" + by + ", " + batch + ", " + part + ", " + f + ") ";
        switch (method) {
            case 12 -> same(call + "about", x.about(claim, what), y.about(claim, what));
            case 13 -> same(call + "table", x.table(s, a, by), y.table(s, a, by));
            case 14 -> same(call + "delays", x.delays(by, d), y.delays(by, d));
            case 15 -> {
                int failed = below(2) == 0 ? f : by - d;
                same(call + "undone of " + failed, x.undone(failed, by), y.undone(failed, by));
            }
            case 16 -> {
                int which = from(0, 1);
                same(call + "chance", x.chance(batch, part, by, which), y.chance(batch, part, by, which));
            }
            default -> same(call + "oddest", x.oddest(part, by), y.oddest(part, by));
        }
    }

    private void askParts(int run, int method) {
        int part = from(0, 9), maker = from(0, 5), batches = from(1, 255), to = from(0, 119), i = from(0, 20);
        int first = from(0, below(2) == 0 ? 9 : 119);
        String call = "run " + run + " (" + part + ", " + batches + ", " + first + ", " + to + ", " + i + ") ";
        switch (method) {
            case 18 -> same(call + "payer", x.payer(part), y.payer(part));
            case 19 -> same(call + "pays", x.pays(maker), y.pays(maker));
            case 20 -> same(call + "left", x.left(), y.left());
            case 21 -> same(call + "called", x.called(part, batches, first, to), y.called(part, batches, first, to));
            default -> same(call + "calledAt", x.calledAt(part, batches, first, to, i), y.calledAt(part, batches, first, to, i));
        }
    }
}

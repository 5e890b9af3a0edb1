/** What the tests of the edges share: each is named by its promise and by the words of the document that it holds. */
final class Edge {
    static final int MOST = Integer.MAX_VALUE, LEAST = Integer.MIN_VALUE;
    private static final int NONE = UnderPromise.NONE;

    private Edge() {
    }

    static void of(int promise, String words, Runnable body) {
        Due.test("promise " + promise + ", '" + words + "'", body);
    }

    static void is(long got, long want) {
        if (got != want) Due.is(whoAsks(), got, want);
    }

    /** The place of a look tells the call, so no test writes its calls a second time as a text. */
    private static String whoAsks() {
        String place = "a look";
        for (StackTraceElement at : new Throwable().getStackTrace()) {
            if (at.getClassName().startsWith("Edge") || at.getMethodName().matches("is|\\w+Is")) continue;
            place = at.getFileName() + ":" + at.getLineNumber();
            break;
        }
        return place;
    }

    /** An object as it was when the watch began: what it refuses must leave it so. */
    static final class Watch {
        private final UnderPromise x;
        private final long before;

        Watch(UnderPromise x) {
            this.x = x;
            before = state(x);
        }

        void bad(long got) {
            refused(got, UnderPromise.BAD);
        }

        void no(long got) {
            refused(got, UnderPromise.NO);
        }

        void full(long got) {
            refused(got, UnderPromise.FULL);
        }

        private void refused(long got, long want) {
            is(got, want);
            unchanged();
        }

        void unchanged() {
            is(state(x), before);
        }

        /** The digest tells all but g; a LAND's PROMISE it tells only by the last months of that LAND's THINGS. */
        private static long state(UnderPromise x) {
            int g = x.again(0);
            x.again(g);
            return 31 * x.digest() + g;
        }
    }

    /** In each LAND a THING that only the months bind and one that only the miles bind: see Watch. */
    static UnderPromise withAllLands() {
        UnderPromise x = new UnderPromise();
        for (int land = 0; land < 4; land++) {
            x.promise(land, 50 + land, 30 + land);
            x.thing(land, 10, 0, land);
            x.thing(land, 10, 1, land);
        }
        return x;
    }

    /** So many THINGS of BATCH 0, sold in month 0, that run no miles. */
    static UnderPromise withThings(int number) {
        UnderPromise x = new UnderPromise();
        for (int i = 0; i < number; i++) x.thing(0, 0, 0, 0);
        return x;
    }

    /** Of each PART in turn a LET CLAIM, for ten THINGS: as many CLAIMS as there may be. */
    static UnderPromise withAllClaims(int cost) {
        UnderPromise x = withThings(10);
        for (int i = 0; i < 100; i++) x.claim(i / 10, i % 10, 0, 0, cost);
        return x;
    }

    /** Pairs, one for each BATCH from 0 on: so many THINGS of it, and so many of these with a LET CLAIM for PART 0. */
    static UnderPromise withHits(int... sizesAndHits) {
        UnderPromise x = new UnderPromise();
        for (int batch = 0; 2 * batch + 1 < sizesAndHits.length; batch++) {
            for (int i = 0; i < sizesAndHits[2 * batch]; i++) {
                int thing = x.thing(batch, 0, 0, 0);
                if (i < sizesAndHits[2 * batch + 1]) x.claim(thing, 0, 0, 0, 0);
            }
        }
        return x;
    }

    /** Each PART under the next one: PART 0 at the foot, PART 9 at the top. */
    static UnderPromise withOneRow() {
        UnderPromise x = withThings(10);
        for (int part = 0; part < 9; part++) x.under(part, part + 1);
        return x;
    }

    static void noMore(UnderPromise x, int claim) {
        for (int what = 0; what <= 6; what++) is(x.about(claim, what), NONE);
    }
}

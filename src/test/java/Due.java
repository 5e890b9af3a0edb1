/** Counts what the tests of one program looked at, and ends it as .ci/run reads it. */
final class Due {
    private static int passed = 0, failed = 0;
    private static String test = "";
    private static int wrongInTest = 0;

    private Due() {
    }

    static void test(String name, Runnable body) {
        test = name;
        wrongInTest = 0;
        try {
            body.run();
        } catch (RuntimeException thrown) {
            wrongInTest++;
            System.out.println(name + ": threw " + thrown);
        }
        if (wrongInTest == 0) passed++;
        else failed++;
    }

    static void is(String call, long got, long want) {
        if (got == want) return;
        wrongInTest++;
        if (wrongInTest <= 20) System.out.println(test + ": " + call + " answered " + got + ", due is " + want);
    }

    static void holds(String what, boolean so) {
        if (so) return;
        wrongInTest++;
        System.out.println(test + ": does not hold: " + what);
    }

    static void end() {
        System.out.println("tests " + passed + " " + failed);
        System.exit(failed == 0 && passed > 0 ? 0 : 1);
    }
}

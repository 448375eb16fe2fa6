/** Counts what was asked and what was not answered as due. */
final class Due {
    private static int passed = 0;
    private static int failed = 0;

    private Due() {
    }

    static void due(String call, long got, long want) {
        if (got == want) {
            passed++;
            return;
        }
        failed++;
        // A broken program can fail everywhere: the first hundred are enough to see why.
        if (failed <= 100) {
            System.out.println(call + " answered " + got + ", due is " + want);
        }
    }

    static void holds(String what, boolean so) {
        due(what, so ? 1 : 0, 1);
    }

    static void type(QuietByYard yard, String letters) {
        for (int i = 0; i < letters.length(); i++) {
            yard.type(letters.charAt(i));
        }
    }

    /** A new object to which a text without fault was told. */
    static QuietByYard told(String letters) {
        QuietByYard yard = new QuietByYard();
        type(yard, letters);
        holds("house() of " + letters, yard.house() >= 0);
        return yard;
    }

    static int failures() {
        return failed;
    }

    static void end() {
        System.out.println(passed + " passed, " + failed + " failed");
        if (failed != 0 || passed == 0) {
            System.exit(1);
        }
    }
}

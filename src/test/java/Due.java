/** Counts what was asked and what was not answered as due. */
final class Due {
    private static String sentence = "";
    private static int passed = 0;
    private static int failed = 0;

    private Due() {
    }

    /** The document's words that the next answers are asked for. */
    static void sentence(String words) {
        sentence = words;
    }

    static void due(String call, long got, long want) {
        if (got == want) {
            passed++;
            return;
        }
        failed++;
        // A broken program can fail everywhere: the first hundred are enough to see why.
        if (failed <= 100) {
            String place = sentence.isEmpty() ? "" : "[" + sentence + "] ";
            System.out.println(place + call + " answered " + got + ", due is " + want);
        }
    }

    static void holds(String what, boolean so) {
        due(what, so ? 1 : 0, 1);
    }

    static void type(QuietByYard yard, String letters) {
        for (int i = 0; i < letters.length(); i++) {
            yard.type(letters.charAt(i));
        }
    }

    /** A new object to which a text without fault was told. */
    static QuietByYard told(String letters) {
        QuietByYard yard = new QuietByYard();
        type(yard, letters);
        holds("house() of " + letters, yard.house() >= 0);
        return yard;
    }

    /** A new object's answer to house() behind a text. */
    static int answer(String letters) {
        QuietByYard yard = new QuietByYard();
        type(yard, letters);
        return yard.house();
    }

    /** That a text has its fault at a place, and is kept. */
    static void fault(String letters, int place) {
        QuietByYard yard = new QuietByYard();
        type(yard, letters);
        due("house() of '" + letters + "'", yard.house(), -10 - place);
        due("letters left of '" + letters + "'", yard.count(8), letters.length());
    }

    /** That a text is told: so many items. */
    static void items(String letters, int items) {
        QuietByYard yard = new QuietByYard();
        type(yard, letters);
        due("house() of '" + letters + "'", yard.house(), items);
        due("letters left of '" + letters + "'", yard.count(8), 0);
    }

    static void end() {
        System.out.println(passed + " passed, " + failed + " failed");
        if (failed != 0 || passed == 0) {
            System.exit(1);
        }
    }
}

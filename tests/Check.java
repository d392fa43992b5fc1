/** What the tests by hand share: an answer beside the one that is due, and towns told in letters. */
abstract class Check {
    static final int BOTH = 0;
    static final int ONE = 1;
    static final int YEARS = 2;
    static final int SMALL = 3;
    static final int NEAR = 0;
    static final int SKILLED = 1;
    static final int SPARE = 2;
    static final int KEEP = 3;
    static final int KIN = 4;
    static final int TOLD = 5;
    static final int LAW = 0;
    static final int SPAN = 1;
    static final int SIZE = 2;
    static final int OUT = 3;
    static final int LEAST = Integer.MIN_VALUE;
    static final int GREATEST = Integer.MAX_VALUE;

    private static int passed = 0;
    private static int failed = 0;
    private static String sentence = "";

    // the sentence of the document that the calls behind it look at
    static void of(String words) {
        sentence = words;
    }

    static void due(String call, int got, int want) {
        if (got == want) {
            passed++;
            return;
        }
        failed++;
        System.out.println("[" + sentence + "] " + call + " answered " + got + ", due is " + want);
    }

    static void end(String test) {
        System.out.println(test + ": " + passed + " passed, " + failed + " failed");
        System.exit(failed == 0 ? 0 : 1);
    }

    static void feedOnly(HelpedOnlyOnce x, String text) {
        for (int i = 0; i < text.length(); i++) {
            x.feed(text.charAt(i));
        }
    }

    static int feedAll(HelpedOnlyOnce x, String text) {
        feedOnly(x, text);
        return x.town();
    }

    // STATEMENTS are fed one by one, as a longer text would not fit
    static HelpedOnlyOnce told(String text) {
        HelpedOnlyOnce x = new HelpedOnlyOnce();
        tell(x, text);
        return x;
    }

    static void tell(HelpedOnlyOnce x, String text) {
        int from = 0;
        for (int i = 0; i < text.length(); i++) {
            if (text.charAt(i) == ';') {
                due("town of " + text.substring(from, i + 1), feedAll(x, text.substring(from, i + 1)), 1);
                from = i + 1;
            }
        }
    }

    static String times(String text, int n) {
        return text.repeat(n);
    }

    static void years(HelpedOnlyOnce x, int n) {
        for (int i = 0; i < n; i++) {
            x.year();
        }
    }

    // a setting is only told when it is set; 1 is in the range of each
    static int setting(HelpedOnlyOnce x, int what) {
        int v = x.set(what, 1);
        x.set(what, v);
        return v;
    }

    static int judged(HelpedOnlyOnce x, int... people) {
        for (int one : people) {
            x.row(one);
        }
        int judged = x.judge();
        due("the ROW has none then", x.count(6), 0);
        return judged;
    }
}

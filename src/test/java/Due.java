/** Compares answers with those that are due, and ends a test's run by what was wrong. */
final class Due {
    private static int looked = 0;
    private static int wrong = 0;

    private Due() {
    }

    static void is(String call, long got, long want) {
        looked++;
        if (got != want) {
            wrong++;
            System.out.println(call + " answered " + got + ", due is " + want);
        }
    }

    static void holds(String claim, boolean is) {
        looked++;
        if (!is) {
            wrong++;
            System.out.println("not so: " + claim);
        }
    }

    static int wrongSoFar() {
        return wrong;
    }

    static void end() {
        System.out.println(looked + " looked at, " + wrong + " wrong");
        if (wrong != 0 || looked == 0) {
            System.exit(1);
        }
    }

    /** Feeds a text, sign by sign, to an empty THE TEXT. */
    static void feed(DeepWearer x, String text) {
        for (int i = 0; i < text.length(); i++) {
            is("feed(" + text.charAt(i) + ")", x.feed(text.charAt(i)), i + 1);
        }
    }

    /** Feeds a text and makes a town of it: what town() answered. */
    static int town(DeepWearer x, String text) {
        feed(x, text);
        return x.town();
    }
}

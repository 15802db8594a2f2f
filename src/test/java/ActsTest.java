/** Promises 33 to 35: acts, the trace, kinds. */
public final class ActsTest {
    private static final int NOTHING = -11, CAST = -12;

    public static void main(String[] args) {
        actsOfTheFirstFive();
        actsOfTheOthers();
        actsThatAreNone();
        actsThatWrap();
        taken();
        Due.end();
    }

    private static void act(DeepWearer x, int wearer, int act, int answer, int... bodies) {
        String call = "act(" + wearer + ", " + act + ", 7)";
        Due.is(call, x.act(wearer, act, 7), answer);
        Due.is("bodies of " + call, x.count(7), bodies.length);
        for (int i = 0; i < bodies.length; i++) {
            Due.is("body " + i + " of " + call, x.trace(i), bodies[i]);
        }
        Due.is("no more bodies of " + call, x.trace(bodies.length), DeepWearer.NONE);
    }

    private static void actsOfTheFirstFive() {
        DeepWearer x = new DeepWearer();
        x.wearer(0, 4, 0);
        x.wearer(1, 3, 0);
        x.wearer(2, 2, 0);
        x.wearer(3, 1, 0);
        x.wearer(4, 5, 0);
        act(x, 0, 0, 7, 10);
        act(x, 0, 1, 3, 11, 10);
        act(x, 0, 2, 6, 12, 11, 10);
        act(x, 1, 0, 8, 10);
        act(x, 1, 1, 3, 20, 11, 10);
        act(x, 1, 2, 6, 12, 20, 11, 10);
        act(x, 2, 0, 23, 30, 10);
        act(x, 2, 1, 21, 11, 30, 10);
        act(x, 2, 2, 42, 12, 11, 30, 10);
        act(x, 3, 0, 10, 10);
        act(x, 3, 1, 9, 11, 10);
        act(x, 3, 2, 21, 40, 12, 11, 10, 11, 10);
        act(x, 4, 0, -11, 50, 10);
        act(x, 4, 1, -23, 51, 20, 11, 50, 10);
        act(x, 4, 2, -46, 12, 51, 20, 11, 50, 10);
    }

    private static void actsOfTheOthers() {
        DeepWearer x = new DeepWearer();
        x.wearer(0, 0, 0);
        x.wearer(6, 6, 0);
        x.wearer(5, 3, 0);
        act(x, 1, 0, 14, 71, 10);
        act(x, 1, 1, 11, 70, 11, 71, 10, 10);
        act(x, 1, 2, 23, 40, 12, 70, 11, 71, 10, 10, 70, 11, 71, 10, 10);
        act(x, 2, 0, 23, 30, 10);
        act(x, 2, 1, 20, 11, 30, 10);
        act(x, 2, 2, 28, 60, 12, 11, 30, 10);
    }

    private static void actsThatAreNone() {
        DeepWearer x = new DeepWearer();
        Due.is("no WEARERS", x.act(0, 0, 5), 0);
        x.wearer(0, 0, 0);
        int[][] none = {{1, 0}, {-1, 0}, {0, 3}, {0, -1}};
        for (int[] one : none) {
            Due.is("act(0, 0, 5)", x.act(0, 0, 5), 5);
            Due.is("its body", x.trace(0), 10);
            Due.is("trace(-1)", x.trace(-1), DeepWearer.NONE);
            Due.is("no such act", x.act(one[0], one[1], 5), 0);
            Due.is("no TRACE then", x.trace(0), DeepWearer.NONE);
            Due.is("no bodies then", x.count(7), 0);
        }
        x.leave(0, true);
        Due.is("who is GONE acts", x.act(0, 0, 5), 5);
    }

    private static void actsThatWrap() {
        DeepWearer x = new DeepWearer();
        x.wearer(0, 9, 0);
        x.wearer(0, 9, 0);
        x.wearer(2, 0, 0);
        x.wearer(4, 0, 0);
        Due.is("x + i wraps", x.act(1, 0, Integer.MAX_VALUE), Integer.MIN_VALUE);
        Due.is("- v wraps", x.act(0, 1, Integer.MIN_VALUE), Integer.MAX_VALUE - 8);
        Due.is("* 2 wraps", x.act(0, 2, 1 << 30), Integer.MIN_VALUE - 18);
        Due.is("* 3 wraps", x.act(2, 0, Integer.MAX_VALUE), Integer.MAX_VALUE);
        Due.is("- wraps", x.act(3, 0, Integer.MIN_VALUE - 3), Integer.MIN_VALUE);
    }

    private static void taken() {
        boolean[][] isUnder = {
            {true, false, false, false, false, false, false},
            {true, true, false, false, false, false, false},
            {true, false, true, false, false, false, false},
            {true, false, false, true, false, false, false},
            {true, true, false, false, true, false, false},
            {true, false, true, false, false, true, false},
            {true, false, false, true, false, false, true},
        };
        for (int kind = 0; kind <= 6; kind++) {
            DeepWearer x = new DeepWearer();
            Due.is("nobody there", x.taken(0, kind), NOTHING);
            x.wearer(kind, 0, 0);
            for (int k = 0; k <= 6; k++) {
                Due.is(kind + " taken for " + k, x.taken(0, k), isUnder[kind][k] ? kind : CAST);
            }
            Due.is("taken for 7", x.taken(0, 7), DeepWearer.BAD);
            Due.is("taken for -1", x.taken(0, -1), DeepWearer.BAD);
            Due.is("nobody taken for 7", x.taken(1, 7), DeepWearer.BAD);
            Due.is("nobody", x.taken(1, 0), NOTHING);
            Due.is("nobody", x.taken(-1, 0), NOTHING);
        }
    }
}

/** Promises 14 to 16: days. */
public final class DaysTest {
    public static void main(String[] args) {
        pass();
        passBelowTheLip();
        passBeyondTheLast();
        lowByHowAllIsAhead();
        on();
        when();
        whenByTheRow();
        whenGone();
        Due.end();
    }

    private static void lies(DeepWearer x, int... lows) {
        for (int n = 0; n < lows.length; n++) {
            Due.is("ON " + n, x.on(n, 10), lows[n]);
        }
        for (int n = 1; n < lows.length; n++) {
            Due.is("a DAY", x.pass(1), x.told(0));
            Due.is("behind " + n, x.at(0, 2), lows[n]);
        }
    }

    private static void pass() {
        DeepWearer x = new DeepWearer();
        x.wearer(0, 0, 12);
        x.thing(5, 0);
        Due.is("pass(-1)", x.pass(-1), DeepWearer.BAD);
        Due.is("pass(61)", x.pass(61), DeepWearer.BAD);
        Due.is("pass(0)", x.pass(0), 0);
        lies(x, 0, 5, 10, 12, 12);
        x.drop(0, 0);
        Due.is("pass(2)", x.pass(2), 6);
        Due.is("two DAYS", x.at(0, 2), 10);
        x.drop(0, 0);
        // TIDE counts DAYS from the first on: 8 and 10 are multiples, and it takes LIFT ahead of FLOOR.
        Due.is("town", Due.town(x, "tide 2;lift 3"), 0);
        Due.is("pass(1)", x.pass(1), 7);
        Due.is("5 and no tide", x.at(0, 2), 5);
        Due.is("pass(1)", x.pass(1), 8);
        Due.is("10 less 3", x.at(0, 2), 7);
        Due.is("pass(60)", x.pass(60), 68);
        Due.is("12 and 5 less 3 is beyond FLOOR", x.at(0, 2), 12);
        x.drop(0, 0);
        x.fetch(0);
        x.pass(1);
        Due.is("what is OUT lies nowhere", x.at(0, 2), -5);
    }

    private static void passBelowTheLip() {
        DeepWearer x = new DeepWearer();
        x.wearer(0, 0, 90);
        x.thing(4, 0);
        Due.is("town", Due.town(x, "tide 3;lift 20;float 9 l=1"), 0);
        // 4, 8, then 12 less 20; 4, 8, then 12 less 20.
        lies(x, 0, 4, 8, 0, 4, 8, 0);
        Due.is("town", Due.town(x, "float 9 l=1"), 1);
        // From 12 on PULL is 4 less 9.
        lies(x, 0, 4, 8, 12, 7, 11, 6, 10, 5);
        Due.is("town", Due.town(x, "tide 1;lift 0"), 2);
        Due.is("no LIFT", x.on(2, 10), 13);
        Due.is("town", Due.town(x, "tide 0;lift 50"), 3);
        Due.is("no TIDE", x.on(2, 10), 13);
        Due.is("town", Due.town(x, "tide 1"), 4);
        Due.is("LIFT is 5 without", x.on(2, 10), 3);
    }

    private static void passBeyondTheLast() {
        DeepWearer x = new DeepWearer();
        x.wearer(6, 0, 99);
        x.thing(0, 0);
        x.row(0, 3, 7);
        x.row(0, 0, 1);
        for (int n = 1; n <= 166; n++) {
            Due.is("pass(60)", x.pass(60), 60 * n);
        }
        Due.is("9960 and 40", x.pass(40), DeepWearer.STATE);
        Due.is("9960 and 61", x.pass(61), DeepWearer.BAD);
        Due.is("DAY stays", x.told(0), 9960);
        Due.is("9960 and 39", x.pass(39), 9999);
        Due.is("9999 and 1", x.pass(1), DeepWearer.STATE);
        Due.is("9999 and 0", x.pass(0), 9999);
        x.drop(0, 0);
        // DAY 9999 is 3 modulo 4, 10000 is 0.
        Due.is("ON beyond 9999", x.on(1, 10), 7);
        Due.is("ON beyond 9999", x.on(2, 10), 8);
        Due.is("ON beyond 9999", x.on(5, 10), 15);
        Due.is("MEAN beyond 9999", x.mean(6, 0), 16);
    }

    private static void lowByHowAllIsAhead() {
        DeepWearer x = new DeepWearer();
        x.wearer(2, 0, 99);
        x.thing(5, 0);
        Due.is("town", Due.town(x, "sink 50 l>0"), 0);
        lies(x, 0, 5, 10, 65, 120, 175, 230, 285, 297, 297);
    }

    private static void on() {
        DeepWearer x = new DeepWearer();
        x.wearer(0, 2, 80);
        x.wearer(2, 0, 80);
        x.thing(6, 0);
        x.thing(6, 1);
        x.thing(1, 1);
        Due.is("on(0, 0)", x.on(0, 0), 3);
        // 12 is within 12, and beyond 10.
        Due.is("on(2, 0)", x.on(2, 0), 2);
        Due.is("on(3, 0)", x.on(3, 0), 1);
        Due.is("on(10, 0)", x.on(10, 0), 1);
        Due.is("on(11, 0)", x.on(11, 0), 0);
        Due.is("on(60, 10)", x.on(60, 10), 80);
        Due.is("on(60, 11)", x.on(60, 11), 240);
        Due.is("on(60, 12)", x.on(60, 12), 60);
        Due.is("nothing went", x.told(0), 0);
        Due.is("nothing sank", x.at(0, 2), 0);
        Due.is("on(1, 1)", x.on(1, 1), DeepWearer.NONE);
        Due.is("on(1, -1)", x.on(1, -1), DeepWearer.NONE);
        Due.is("on(1, 13)", x.on(1, 13), DeepWearer.NONE);
        Due.is("on(61, 9)", x.on(61, 9), DeepWearer.NONE);
        Due.is("on(61, 0)", x.on(61, 0), DeepWearer.BAD);
        Due.is("on(-1, 10)", x.on(-1, 10), DeepWearer.BAD);
        x.fetch(0);
        Due.is("one OUT", x.on(5, 10), -5);
        Due.is("one OUT, and bad", x.on(61, 10), DeepWearer.BAD);
        Due.is("on(2, 0) with one OUT", x.on(2, 0), 1);
    }

    private static void when() {
        DeepWearer x = new DeepWearer();
        x.wearer(0, 0, 12);
        x.wearer(2, 0, 60);
        x.wearer(0, 9, 15);
        x.thing(5, 0);
        x.thing(3, 1);
        x.thing(2, 1);
        x.thing(5, 2);
        x.thing(0, 0);
        Due.is("LOST: 12 is beyond 10", x.when(0, 0), 3);
        Due.is("SUNK: 12", x.when(0, 1), 3);
        Due.is("LOST: 12 is beyond 10", x.when(1, 0), 4);
        Due.is("SUNK behind 60", x.when(1, 1), 60);
        Due.is("LOST: 12 is beyond 10", x.when(2, 0), 6);
        Due.is("120 behind 60 is not 180", x.when(2, 1), -5);
        Due.is("15 is never beyond 19", x.when(3, 0), -5);
        Due.is("SUNK", x.when(3, 1), 3);
        Due.is("it never sinks", x.when(4, 0), -5);
        Due.is("it never sinks", x.when(4, 1), -5);
        Due.is("when(5, 0)", x.when(5, 0), DeepWearer.NONE);
        Due.is("when(-1, 0)", x.when(-1, 0), DeepWearer.NONE);
        Due.is("when(0, 2)", x.when(0, 2), DeepWearer.NONE);
        Due.is("when(0, -1)", x.when(0, -1), DeepWearer.NONE);
        x.pass(3);
        Due.is("LOST already", x.when(0, 0), 0);
        Due.is("SUNK already", x.when(0, 1), 0);
        x.think(0, 5);
        Due.is("below FLOOR is SUNK", x.when(0, 1), 0);
        Due.is("LOST now, whatever comes", x.when(0, 0), 0);
        x.fetch(0);
        Due.is("one OUT is not LOST", x.when(0, 0), -5);
        Due.is("one OUT is not SUNK", x.when(0, 1), -5);
        Due.is("one OUT, no what", x.when(0, 2), DeepWearer.NONE);
    }

    private static void whenByTheRow() {
        DeepWearer x = new DeepWearer();
        x.wearer(6, 0, 16);
        x.wearer(0, 0, 99);
        x.thing(0, 0);
        x.thing(1, 1);
        x.row(0, 1, 6);
        x.row(0, 2, 5);
        // From DAY 1 on: 6, 11, 11, 11, 16.
        x.pass(1);
        Due.is("LOST by the ROW", x.when(0, 0), 2);
        Due.is("SUNK by the ROW", x.when(0, 1), 5);
        // 1 already: 10 behind 9 is within 10.
        Due.is("LOST at 11", x.when(1, 0), 10);
        x.think(1, 11);
        Due.is("SUNK at 11", x.when(1, 1), 10);
    }

    private static void whenGone() {
        DeepWearer x = new DeepWearer();
        x.wearer(0, 0, 12);
        x.wearer(0, 0, 0);
        x.thing(5, 0);
        x.thing(5, 1);
        x.leave(0, true);
        Due.is("who is GONE has no ARM", x.when(0, 0), 1);
        Due.is("no FLOOR below the lip", x.when(1, 1), 0);
        Due.is("never below the lip", x.when(1, 0), -5);
        Due.is("town", Due.town(x, "tide 2;lift 10"), 0);
        Due.is("it is not touched behind 1", x.on(1, 0), 1);
        Due.is("it is touched behind 2", x.on(2, 0), 2);
        Due.is("the fewest DAYS", x.when(0, 0), 1);
    }
}

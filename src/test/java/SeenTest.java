/** Promises 21 to 25: seen, odds. */
public final class SeenTest {
    public static void main(String[] args) {
        see();
        lay();
        layBehindMore();
        can();
        odds();
        mean();
        Due.end();
    }

    private static void see() {
        DeepWearer x = new DeepWearer();
        Due.is("see(0, 0, 0)", x.see(0, 0, 0), DeepWearer.NONE);
        Due.is("see(-1, -9, -9)", x.see(-1, -9, -9), 0);
        x.wearer(0, 0, 50);
        x.thing(1, 0);
        Due.is("see(1, 1000, 21)", x.see(1, 1000, 21), DeepWearer.NONE);
        Due.is("see(-2, 0, 0)", x.see(-2, 0, 0), DeepWearer.NONE);
        Due.is("see(0, 1000, 0)", x.see(0, 1000, 0), DeepWearer.BAD);
        Due.is("see(0, -1, 0)", x.see(0, -1, 0), DeepWearer.BAD);
        Due.is("see(0, 0, 21)", x.see(0, 0, 21), DeepWearer.BAD);
        Due.is("see(0, 0, -1)", x.see(0, 0, -1), DeepWearer.BAD);
        Due.is("see(0, 999, 20)", x.see(0, 999, 20), 1);
        for (int n = 2; n <= 5; n++) {
            Due.is("see " + n, x.see(0, 0, 0), n);
        }
        Due.is("see 6", x.see(0, 0, 0), DeepWearer.FULL);
        Due.is("see 6, bad", x.see(0, 0, 21), DeepWearer.BAD);
        Due.is("five", x.count(3), 5);
        Due.is("none then", x.see(-1, 5000, 5000), 0);
        Due.is("none", x.count(3), 0);
        Due.is("see 1", x.see(0, 0, 0), 1);
    }

    private static void lay(DeepWearer x, int thing, int many, int least) {
        Due.is("LAY of " + thing + ", how many", x.lay(thing, 0), many);
        Due.is("LAY of " + thing + ", the least", x.lay(thing, 1), least);
    }

    private static void lay() {
        DeepWearer x = new DeepWearer();
        x.wearer(0, 0, 99);
        x.thing(5, 0);
        x.thing(3, 0);
        lay(x, 0, 41, 0);
        x.see(0, 12, 2);
        lay(x, 0, 1, 2);
        // Nothing of another one tells on it: it lies 10 behind 2.
        lay(x, 1, 0, -5);
        x.think(0, 12);
        lay(x, 0, 39, 2);
        x.see(0, 20, 0);
        lay(x, 0, 1, 20);
        x.see(0, 21, 0);
        lay(x, 0, 0, -5);
        x.see(-1, 0, 0);
        x.see(1, 6, 2);
        lay(x, 0, 41, 0);
        lay(x, 1, 1, 0);
        x.drop(0, 0);
        x.fetch(0);
        lay(x, 0, 0, -5);
        x.see(0, 0, 0);
        lay(x, 1, 0, -5);
        Due.is("CAN, by one that is OUT", x.can(0, 0), 0);
        Due.is("CAN, by one that is OUT", x.can(0, 1), -5);
        Due.is("lay(2, 0)", x.lay(2, 0), DeepWearer.NONE);
        Due.is("lay(-1, 0)", x.lay(-1, 0), DeepWearer.NONE);
        Due.is("lay(0, 2)", x.lay(0, 2), DeepWearer.NONE);
        Due.is("lay(0, -1)", x.lay(0, -1), DeepWearer.NONE);
        Due.is("nothing was moved", x.at(1, 2), 0);
    }

    private static void layBehindMore() {
        DeepWearer x = new DeepWearer();
        x.wearer(0, 0, 99);
        x.thing(1, 0);
        x.see(0, 40, 0);
        lay(x, 0, 1, 40);
        x.see(-1, 0, 0);
        x.see(0, 41, 0);
        lay(x, 0, 0, -5);
        x.see(-1, 0, 0);
        x.see(0, 60, 20);
        lay(x, 0, 1, 40);
        // DAYS count from now on, whenever that is.
        x.pass(7);
        lay(x, 0, 1, 40);
        Due.is("town", Due.town(x, "tide 1;lift 9"), 0);
        x.see(-1, 0, 0);
        x.see(0, 0, 2);
        lay(x, 0, 17, 0);
    }

    private static void can() {
        DeepWearer x = new DeepWearer();
        x.wearer(0, 2, 50);
        x.wearer(4, 0, 50);
        x.thing(5, 0);
        x.thing(9, 1);
        Due.is("CAN of none SEEN", x.can(0, 0), 10);
        Due.is("CAN of none SEEN", x.can(0, 1), 0);
        Due.is("town", Due.town(x, "float 3 p=0&v>4&v<8"), 0);
        x.see(0, 4, 2);
        Due.is("v 5, 6, 7", x.can(0, 0), 3);
        Due.is("the least is 5", x.can(0, 1), 5);
        Due.is("not by another one's v", x.can(1, 0), 0);
        Due.is("not by another one's v", x.can(1, 1), -5);
        x.see(-1, 0, 0);
        // The floor of a RATTLE is 10 and v.
        x.see(1, 16, 9);
        Due.is("v 6", x.can(1, 0), 1);
        Due.is("v 6", x.can(1, 1), 6);
        x.see(-1, 0, 0);
        x.see(1, 0, 0);
        Due.is("any v", x.can(1, 0), 10);
        Due.is("can(2, 0)", x.can(2, 0), DeepWearer.NONE);
        Due.is("can(-1, 0)", x.can(-1, 0), DeepWearer.NONE);
        Due.is("can(0, 2)", x.can(0, 2), DeepWearer.NONE);
        Due.is("can(0, -1)", x.can(0, -1), DeepWearer.NONE);
        Due.is("v stays", x.of(0, 1), 2);
    }

    private static void odds(DeepWearer x, int n, int above, int below) {
        Due.is("ODDS of " + n + ", above", x.odds(n, 0, 0), above);
        Due.is("ODDS of " + n + ", below", x.odds(n, 0, 1), below);
    }

    private static void odds() {
        DeepWearer x = new DeepWearer();
        Due.is("no WEARERS", x.odds(0, 0, 0), DeepWearer.NO);
        x.wearer(2, 0, 99);
        x.thing(4, 0);
        odds(x, 0, 1, 1);
        odds(x, 1, 0, 1);
        x.wearer(0, 5, 9);
        // 10 and 15: without the one 15 are left, without the other 10.
        odds(x, 2, 1, 1);
        odds(x, 3, 1, 2);
        odds(x, 4, 0, 1);
        x.wearer(0, 0, 9);
        x.leave(2, true);
        odds(x, 2, 1, 1);
        odds(x, 3, 2, 3);
        odds(x, 6, 1, 3);
        odds(x, 7, 0, 1);
        x.wearer(0, 5, 9);
        // 10, 15, GONE, 15: 30, 25, 40, 25.
        odds(x, 7, 1, 2);
        odds(x, 8, 1, 4);
        odds(x, 60, 0, 1);
        Due.is("odds(-1, 0, 0)", x.odds(-1, 0, 0), DeepWearer.NO);
        Due.is("odds(61, 0, 0)", x.odds(61, 0, 0), DeepWearer.NO);
        Due.is("odds(0, 1, 0)", x.odds(0, 1, 0), DeepWearer.NO);
        Due.is("odds(0, -1, 0)", x.odds(0, -1, 0), DeepWearer.NO);
        Due.is("odds(0, 0, 2)", x.odds(0, 0, 2), DeepWearer.NO);
        Due.is("odds(0, 0, -1)", x.odds(0, 0, -1), DeepWearer.NO);
        x.fetch(0);
        odds(x, 0, 0, 1);
        Due.is("nobody went", x.of(0, 3), 0);
    }

    private static void mean() {
        DeepWearer x = new DeepWearer();
        x.wearer(0, 0, 99);
        Due.is("nothing", x.mean(0, 0), DeepWearer.NO);
        Due.is("nothing", x.mean(0, 1), DeepWearer.NO);
        x.thing(5, 0);
        x.thing(2, 0);
        Due.is("MEAN of 0, above", x.mean(0, 0), 0);
        Due.is("MEAN of 0, below", x.mean(0, 1), 1);
        Due.is("MEAN of 1, above", x.mean(1, 0), 7);
        Due.is("MEAN of 1, below", x.mean(1, 1), 2);
        Due.is("MEAN of 60, above", x.mean(60, 0), 99);
        Due.is("MEAN of 60, below", x.mean(60, 1), 1);
        x.thing(5, 0);
        x.thing(6, 0);
        Due.is("MEAN of 1, above", x.mean(1, 0), 9);
        Due.is("MEAN of 1, below", x.mean(1, 1), 2);
        Due.is("mean(-1, 0)", x.mean(-1, 0), DeepWearer.NO);
        Due.is("mean(61, 0)", x.mean(61, 0), DeepWearer.NO);
        Due.is("mean(0, 2)", x.mean(0, 2), DeepWearer.NO);
        Due.is("mean(0, -1)", x.mean(0, -1), DeepWearer.NO);
        x.fetch(3);
        Due.is("one OUT is none of them", x.mean(1, 0), 4);
        Due.is("one OUT is none of them", x.mean(1, 1), 1);
        x.fetch(0);
        x.fetch(1);
        x.fetch(2);
        Due.is("all OUT", x.mean(1, 0), DeepWearer.NO);
    }
}

/** Promises 17 to 20: chains, orders. */
public final class ChainsTest {
    public static void main(String[] args) {
        chain();
        best();
        bestByTheTown();
        fetched();
        fetchedByThoseLeft();
        deepen();
        Due.end();
    }

    private static void chain() {
        DeepWearer x = new DeepWearer();
        x.wearer(2, 0, 99);
        x.wearer(0, 5, 9);
        x.wearer(0, 0, 9);
        x.wearer(0, 5, 9);
        x.thing(2, 0);
        Due.is("chain(1)", x.chain(1), DeepWearer.NONE);
        Due.is("chain(-1)", x.chain(-1), DeepWearer.NONE);
        Due.is("at the lip nobody is needed", x.chain(0), 0);
        x.pass(5);
        Due.is("10 is within ARM of the first", x.chain(0), 1);
        x.pass(1);
        Due.is("12 is within ARM of the second", x.chain(0), 2);
        x.pass(5);
        // 22: 10 and 15 (3), 15 and 10 (6), 10 and 15 (9).
        Due.is("22: the least bits of two", x.chain(0), 3);
        x.pass(2);
        Due.is("26: 15 and 15", x.chain(0), 10);
        x.pass(3);
        Due.is("32: three", x.chain(0), 7);
        x.pass(4);
        Due.is("40: with both of 15", x.chain(0), 11);
        x.pass(5);
        Due.is("50: all", x.chain(0), 15);
        x.pass(1);
        Due.is("52 is beyond all", x.chain(0), -5);
        x.drop(0, 0);
        x.pass(11);
        x.leave(0, true);
        Due.is("22 without the first", x.chain(0), 6);
        x.leave(1, true);
        Due.is("22 without two", x.chain(0), 12);
        x.leave(3, true);
        Due.is("22 is beyond 10", x.chain(0), -5);
        x.drop(0, 0);
        x.leave(2, true);
        Due.is("at the lip, all GONE", x.chain(0), 0);
        x.fetch(0);
        Due.is("one OUT", x.chain(0), -5);
    }

    private static void best() {
        DeepWearer x = new DeepWearer();
        x.wearer(2, 0, 99);
        x.wearer(3, 0, 50);
        x.wearer(1, 0, 90);
        x.wearer(0, 0, 18);
        x.thing(3, 0);
        x.thing(9, 0);
        Due.is("best(2)", x.best(2), DeepWearer.NONE);
        Due.is("best(-1)", x.best(-1), DeepWearer.NONE);
        // Behind 20 DAYS: 60; 20; 18 (20 on the floor of a fifth of 90); 18.
        Due.is("the first of the highest", x.best(0), 2);
        x.leave(2, true);
        Due.is("nobody who is GONE", x.best(0), 3);
        x.leave(3, true);
        Due.is("FELT", x.best(0), 1);
        x.pass(20);
        x.think(1, 0);
        x.leave(3, false);
        // 60 and 20; 0; FLOOR 18.
        Due.is("no LOWER than FLOOR there", x.best(0), 1);
        x.think(1, 99);
        Due.is("60 lies on 18 there", x.best(0), 3);
        Due.is("its own is still asked", x.best(1), 3);
        x.leave(0, true);
        x.leave(1, true);
        x.leave(3, true);
        Due.is("all are GONE", x.best(0), -5);
        Due.is("nothing was moved", x.at(0, 1), 0);
        x.leave(0, false);
        Due.is("60 is beyond 10", x.fetch(0), DeepWearer.BAD);
        x.drop(0, 0);
        x.fetch(0);
        Due.is("one OUT", x.best(0), -5);
    }

    private static void bestByTheTown() {
        DeepWearer x = new DeepWearer();
        x.wearer(0, 1, 99);
        x.wearer(0, 2, 99);
        x.wearer(0, 3, 99);
        x.thing(2, 0);
        Due.is("alike: the first", x.best(0), 0);
        Due.is("town", Due.town(x, "float 1 v=3;float 1 p=1&l<2"), 0);
        // 40; 1 a DAY up to 20; 20.
        Due.is("the first of two alike", x.best(0), 1);
        x.pass(1);
        // From 2 on: 18 DAYS of 1 to 20, then 2 DAYS of 2: 24; 22.
        Due.is("as LOW as it does", x.best(0), 2);
    }

    private static void fetched() {
        DeepWearer x = new DeepWearer();
        Due.is("nothing", x.fetched(-1), 0);
        Due.is("nothing is the first", x.fetched(0), -5);
        Due.is("fetched(-2)", x.fetched(-2), DeepWearer.NONE);
        Due.is("fetched(6)", x.fetched(6), DeepWearer.NONE);
        Due.is("fetched(5)", x.fetched(5), -5);
        x.wearer(0, 0, 99);
        x.thing(1, 0);
        x.thing(9, 0);
        x.thing(5, 0);
        orders(x, 3, 0, 1, 2);
        x.pass(1);
        // 1, 9, 5 now; 2, 18, 10 behind 1; 3, 27, 15 behind 2: within 10.
        orders(x, 3, 1, 2, 0);
        x.pass(1);
        // 2, 18, 10: one is lost in any order.
        orders(x, 2, 2, 0, 1);
        x.pass(5);
        orders(x, 1, 0, 1, 2);
        x.pass(4);
        orders(x, 0, 0, 1, 2);
        x.drop(0, 0);
        x.fetch(0);
        orders(x, 0, 1, 2);
        x.drop(0, 0);
        x.thing(6, 0);
        x.thing(6, 0);
        x.thing(2, 0);
        // Two sink by 6 and must be had by 1; the others, by 1 and by 2, may wait till 10 and till 5.
        orders(x, 4, 3, 4, 0, 1, 2, 5);
    }

    private static void orders(DeepWearer x, int most, int... order) {
        Due.is("how many are had", x.fetched(-1), most);
        for (int k = 0; k < 6; k++) {
            Due.is("the " + k + "-th", x.fetched(k), k < order.length ? order[k] : -5);
        }
    }

    private static void fetchedByThoseLeft() {
        DeepWearer x = new DeepWearer();
        x.wearer(0, 0, 99);
        x.wearer(0, 0, 99);
        x.thing(1, 0);
        x.thing(9, 0);
        x.pass(1);
        orders(x, 2, 0, 1);
        x.leave(1, true);
        orders(x, 2, 1, 0);
        x.leave(0, true);
        orders(x, 0, 0, 1);
        Due.is("DAY", x.told(0), 1);
        Due.is("nothing was had", x.at(1, 2), 9);
    }

    private static void deepen() {
        DeepWearer x = new DeepWearer();
        x.wearer(4, 5, 7);
        x.wearer(5, 3, 7);
        x.wearer(1, 9, 7);
        x.wearer(2, 9, 7);
        x.wearer(6, 9, 7);
        Due.is("a RATTLE", x.deepen(0, 10), 25);
        Due.is("a RATTLE", x.deepen(0, 5), 0);
        Due.is("a RATTLE", x.deepen(0, 25), -5);
        Due.is("a RATTLE", x.deepen(0, 24), 95);
        Due.is("a WIDOW", x.deepen(1, 31), 1);
        Due.is("a WIDOW", x.deepen(1, 30), 0);
        Due.is("a WIDOW", x.deepen(1, 327), 99);
        Due.is("a WIDOW", x.deepen(1, 328), -5);
        Due.is("a LIGHT one", x.deepen(2, 19), 95);
        Due.is("a LIGHT one", x.deepen(2, 20), -5);
        Due.is("a DEEP one", x.deepen(3, 100), 34);
        Due.is("a TOLD one", x.deepen(4, 99), 99);
        Due.is("a TOLD one", x.deepen(4, 999), -5);
        Due.is("a TOLD one", x.deepen(4, 0), 0);
        Due.is("THOUGHT stays", x.of(4, 2), 7);
        Due.is("deepen(5, 1)", x.deepen(5, 1), DeepWearer.NONE);
        Due.is("deepen(-1, 1000)", x.deepen(-1, 1000), DeepWearer.NONE);
        Due.is("deepen(0, 1000)", x.deepen(0, 1000), DeepWearer.BAD);
        Due.is("deepen(0, -1)", x.deepen(0, -1), DeepWearer.BAD);
    }
}

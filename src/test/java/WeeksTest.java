/** Promises 26 to 29: weeks, books. */
public final class WeeksTest {
    public static void main(String[] args) {
        week();
        ends();
        endsInTheirOrder();
        book();
        looked();
        Due.end();
    }

    private static void week() {
        DeepWearer x = new DeepWearer();
        Due.is("week(-1, -7)", x.week(-1, -7), 0);
        Due.is("no WEARER", x.week(1, 0), DeepWearer.NONE);
        Due.is("no THING", x.week(2, 0), DeepWearer.NONE);
        x.wearer(0, 0, 50);
        x.thing(5, 0);
        Due.is("week(4, 0)", x.week(4, 0), DeepWearer.NONE);
        Due.is("week(-2, 0)", x.week(-2, 0), DeepWearer.NONE);
        Due.is("week(1, 1)", x.week(1, 1), DeepWearer.NONE);
        Due.is("week(1, -1)", x.week(1, -1), DeepWearer.NONE);
        Due.is("week(2, 1)", x.week(2, 1), DeepWearer.NONE);
        Due.is("week(2, -1)", x.week(2, -1), DeepWearer.NONE);
        Due.is("week(3, 100)", x.week(3, 100), DeepWearer.BAD);
        Due.is("week(3, -1)", x.week(3, -1), DeepWearer.BAD);
        Due.is("week(0, 5000)", x.week(0, 5000), 1);
        Due.is("week(1, 0)", x.week(1, 0), 2);
        Due.is("week(2, 0)", x.week(2, 0), 3);
        Due.is("week(3, 0)", x.week(3, 0), 4);
        Due.is("week(3, 99)", x.week(3, 99), 5);
        for (int n = 6; n <= 10; n++) {
            Due.is("week " + n, x.week(0, -n), n);
        }
        Due.is("week 11", x.week(0, 0), DeepWearer.FULL);
        Due.is("week 11, bad", x.week(3, 100), DeepWearer.BAD);
        Due.is("week 11, no THING", x.week(2, 1), DeepWearer.NONE);
        Due.is("ten", x.count(4), 10);
        Due.is("empty then", x.week(-1, 0), 0);
        Due.is("none", x.count(4), 0);
    }

    private static void ends(DeepWearer x, int low, int within) {
        Due.is("ENDS, how LOW", x.ends(0), low);
        Due.is("ENDS, how many", x.ends(1), within);
    }

    private static void ends() {
        DeepWearer x = new DeepWearer();
        x.wearer(0, 0, 50);
        x.wearer(2, 2, 50);
        x.thing(5, 0);
        x.thing(7, 1);
        ends(x, 0, 2);
        x.week(0, 0);
        x.week(0, 0);
        ends(x, 24, 2);
        x.week(1, 0);
        // 10 and 14 are left with an ARM of 12.
        ends(x, 24, 1);
        x.week(0, 0);
        ends(x, 36, 0);
        x.week(2, 1);
        ends(x, 15, 0);
        x.week(3, 12);
        ends(x, 15, 0);
        x.week(0, 0);
        ends(x, 12, 1);
        x.week(2, 0);
        x.week(0, 0);
        ends(x, 0, 0);
        Due.is("nothing went", x.told(0), 0);
        Due.is("nobody is GONE", x.of(0, 3), 0);
        Due.is("nothing is OUT", x.at(1, 1), 1);
        Due.is("THOUGHT stays", x.of(1, 2), 50);
        Due.is("ends(2)", x.ends(2), DeepWearer.NONE);
        Due.is("ends(-1)", x.ends(-1), DeepWearer.NONE);
        // Once more from how all is then: 3 DAYS behind 2, and all that goes.
        x.pass(2);
        x.week(-1, 0);
        x.week(0, 0);
        ends(x, 36, 2);
        x.leave(0, true);
        ends(x, 36, 0);
    }

    private static void endsInTheirOrder() {
        DeepWearer x = new DeepWearer();
        x.wearer(6, 0, 50);
        x.thing(0, 0);
        x.row(0, 1, 5);
        x.pass(1);
        x.week(3, 2);
        x.week(0, 0);
        x.week(3, 50);
        x.week(0, 0);
        // The ROW at DAY 1 is 5, on a floor of 2; then nothing comes.
        ends(x, 2, 1);
        Due.is("town", Due.town(x, "tide 3;lift 1"), 0);
        ends(x, 1, 1);
        x.week(2, 0);
        x.week(2, 0);
        ends(x, 0, 0);
    }

    private static void book() {
        DeepWearer x = new DeepWearer();
        Due.is("book(0, 0)", x.book(0, 0), DeepWearer.NONE);
        Due.is("book(-1, -9)", x.book(-1, -9), 0);
        x.wearer(0, 0, 50);
        x.thing(5, 0);
        Due.is("book(1, 1000)", x.book(1, 1000), DeepWearer.NONE);
        Due.is("book(-2, 0)", x.book(-2, 0), DeepWearer.NONE);
        Due.is("book(0, 1000)", x.book(0, 1000), DeepWearer.BAD);
        Due.is("book(0, -5)", x.book(0, -5), DeepWearer.BAD);
        Due.is("book(0, 999)", x.book(0, 999), 1);
        for (int n = 2; n <= 8; n++) {
            Due.is("book " + n, x.book(0, 0), n);
        }
        Due.is("book 9", x.book(0, 0), DeepWearer.FULL);
        Due.is("book 9, bad", x.book(0, 1000), DeepWearer.BAD);
        Due.is("book 9, no THING", x.book(1, 0), DeepWearer.NONE);
        Due.is("eight", x.count(5), 8);
        Due.is("empty then", x.book(-1, 1000), 0);
        Due.is("none", x.count(5), 0);
    }

    private static void looked() {
        DeepWearer x = new DeepWearer();
        Due.is("no rows", x.looked(), -5);
        x.wearer(0, 0, 50);
        x.thing(5, 0);
        x.thing(2, 0);
        x.book(0, 0);
        x.book(1, 0);
        Due.is("as it is", x.looked(), -5);
        x.pass(1);
        Due.is("the first row", x.looked(), 0);
        x.book(-1, 0);
        x.book(0, 5);
        x.book(1, 2);
        x.book(0, 6);
        x.book(0, 7);
        Due.is("the first that is otherwise", x.looked(), 2);
        x.fetch(1);
        Due.is("one OUT is otherwise", x.looked(), 1);
        x.book(-1, 0);
        x.book(0, 5);
        x.book(1, 0);
        Due.is("one OUT does not lie at the lip", x.looked(), 1);
    }
}

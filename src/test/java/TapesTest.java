/** Promises 30 to 32 and 36 to 40: judging, the image, counts, tapes. */
public final class TapesTest {
    private static final int NOTHING = -11, CAST = -12, PLACE = -13, SIZE = -14;

    public static void main(String[] args) {
        judge();
        judgeNothing();
        image();
        imageOfTheTown();
        imageOfAll();
        count();
        tape();
        item();
        read();
        shift();
        Due.end();
    }

    private static void judge() {
        DeepWearer x = new DeepWearer();
        x.wearer(0, 0, 50);
        x.thing(5, 0);
        x.thing(2, 0);
        x.thing(9, 0);
        x.pass(1);
        x.fetch(1);
        x.tape(0, 1, 5);
        tell(x, 1, 5, -5, 9);
        Due.is("all as told", x.judge(0, 1), -5);
        Due.is("from elsewhere on", x.judge(0, 0), 0);
        Due.is("at the end of the row", x.judge(0, 4), 0);
        tell(x, 1, 5, 0, 9);
        Due.is("one OUT is -5", x.judge(0, 1), 1);
        tell(x, 1, 5, -5, 8);
        Due.is("the last", x.judge(0, 1), 2);
        tell(x, 2, 5, -5, 9);
        Due.is("the row holds it just", x.judge(0, 2), -5);
        tell(x, 3, 5, -5);
        Due.is("the row ends behind two", x.judge(0, 3), 102);
        tell(x, 4, 5);
        Due.is("the row ends behind one", x.judge(0, 4), 101);
        tell(x, 4, 6);
        Due.is("otherwise ahead of the end", x.judge(0, 4), 0);
        Due.is("the end itself", x.judge(0, 5), 100);
        Due.is("far beyond", x.judge(0, Integer.MAX_VALUE), 100);
        Due.is("below 0", x.judge(0, -1), 100);
        Due.is("far below 0", x.judge(0, Integer.MIN_VALUE), 100);
        Due.is("a TAPE of nothing", x.judge(1, 0), 100);
        Due.is("a TAPE of nothing, below 0", x.judge(1, -1), 100);
        Due.is("judge(6, 0)", x.judge(6, 0), DeepWearer.NONE);
        Due.is("judge(-1, 0)", x.judge(-1, 0), DeepWearer.NONE);
        for (int sort = 0; sort <= 4; sort++) {
            x.tape(2, sort, 5);
            Due.is("a row of sort " + sort, x.judge(2, 0), sort == 1 ? 0 : CAST);
            Due.is("a row of sort " + sort + ", below 0", x.judge(2, -1), sort == 1 ? 100 : CAST);
        }
    }

    private static void tell(DeepWearer x, int from, int... lows) {
        for (int n = 0; n < lows.length; n++) {
            Due.is("item", x.item(0, from + n, lows[n]), 1);
        }
    }

    private static void judgeNothing() {
        DeepWearer x = new DeepWearer();
        Due.is("none to look at, nothing told", x.judge(0, 0), -5);
        Due.is("none to look at, below 0", x.judge(0, -1), -5);
        x.tape(0, 1, 0);
        Due.is("none to look at, a row of none", x.judge(0, 0), -5);
        x.tape(0, 2, 3);
        Due.is("none to look at, a row of ints", x.judge(0, 0), CAST);
        Due.is("none to look at, no TAPE", x.judge(6, 0), DeepWearer.NONE);
    }

    private static void image() {
        DeepWearer x = new DeepWearer();
        Due.is("none yet", x.undo(), DeepWearer.STATE);
        x.wearer(0, 0, 50);
        x.thing(5, 0);
        Due.is("image()", x.image(), 1);
        x.wearer(3, 1, 2);
        x.thing(1, 1);
        x.pass(2);
        Due.is("undo()", x.undo(), 1);
        Due.is("one WEARER", x.count(0), 1);
        Due.is("one THING", x.count(1), 1);
        Due.is("DAY", x.told(0), 0);
        Due.is("how LOW", x.at(0, 2), 0);
        x.pass(3);
        Due.is("undo() once more", x.undo(), 1);
        Due.is("DAY", x.told(0), 0);
        Due.is("the next WEARER is new", x.wearer(6, 0, 9), 1);
        Due.is("its ROW is new", x.row(1, 0, 4), 0);
        x.leave(1, true);
        x.undo();
        x.wearer(6, 0, 9);
        Due.is("the next WEARER is not GONE", x.of(1, 3), 0);
        Due.is("its ROW is new again", x.row(1, 0, 4), 0);
        Due.is("the next THING is new", x.thing(3, 1), 1);
        Due.is("it lies at the lip", x.at(1, 2), 0);
        Due.is("a newer image", x.image(), 2);
        x.leave(0, true);
        Due.is("undo()", x.undo(), 2);
        Due.is("not GONE", x.of(0, 3), 0);
        Due.is("the ROW of THE IMAGE", x.row(1, 0, 0), 4);
    }

    private static void imageOfTheTown() {
        DeepWearer x = new DeepWearer();
        x.image();
        Due.is("town", Due.town(x, "reach 30"), 0);
        x.undo();
        Due.is("none held", x.told(1), 10);
        Due.is("one town still", x.count(2), 1);
        Due.is("town", Due.town(x, "reach 31"), 1);
        x.image();
        Due.is("town", Due.town(x, "reach 32"), 2);
        x.undo();
        Due.is("the second held", x.told(1), 31);
        Due.is("feed", x.feed('r'), 1);
        x.undo();
        Due.is("THE TEXT stays", x.count(6), 1);
        Due.is("its fault", x.town(), -11);
        Due.is("town", Due.town(x, "reach 33"), 3);
        Due.is("three are behind it", x.count(2), 4);
    }

    private static void imageOfAll() {
        DeepWearer x = new DeepWearer();
        x.wearer(6, 3, 50);
        x.wearer(2, 3, 50);
        x.thing(5, 0);
        x.thing(5, 1);
        x.fetch(1);
        x.row(0, 2, 8);
        x.see(0, 5, 1);
        x.week(0, 0);
        x.book(0, 7);
        x.pass(1);
        x.tape(0, 2, 3);
        x.image();
        x.think(0, 20);
        x.row(0, 2, 1);
        x.drop(1, 0);
        x.drop(0, 1);
        x.see(0, 5, 1);
        x.see(-1, 0, 0);
        x.week(3, 9);
        x.book(-1, 0);
        x.book(0, 3);
        x.pass(5);
        x.tape(0, 3, 5);
        x.act(0, 0, 1);
        x.undo();
        Due.is("THOUGHT", x.of(0, 2), 50);
        Due.is("ROW", x.row(0, 2, 8), 8);
        Due.is("OUT", x.at(1, 1), -5);
        Due.is("pocket", x.at(0, 1), 0);
        Due.is("how LOW", x.at(0, 2), 3);
        Due.is("DAY", x.told(0), 1);
        Due.is("SEEN", x.count(3), 1);
        Due.is("the WEEK", x.count(4), 1);
        Due.is("the BOOK", x.count(5), 1);
        Due.is("the BOOK's row", x.looked(), 0);
        Due.is("SEEN's row", x.lay(0, 1), 2);
        Due.is("the WEEK's row", x.ends(0), 6);
        Due.is("TAPES stay", x.item(0, 4, 1), 1);
        Due.is("THE TRACE stays", x.trace(0), 71);
    }

    private static void count() {
        DeepWearer x = new DeepWearer();
        x.wearer(0, 0, 50);
        x.wearer(0, 0, 50);
        x.thing(5, 0);
        Due.town(x, "tide 1");
        x.see(0, 0, 0);
        x.see(0, 0, 0);
        x.see(0, 0, 0);
        for (int n = 0; n < 4; n++) {
            x.week(0, 0);
        }
        for (int n = 0; n < 5; n++) {
            x.book(0, 0);
        }
        for (int n = 0; n < 6; n++) {
            x.feed('a');
        }
        x.act(0, 2, 1);
        int[] counts = {2, 1, 1, 3, 4, 5, 6, 3};
        for (int what = 0; what <= 7; what++) {
            Due.is("count(" + what + ")", x.count(what), counts[what]);
        }
        Due.is("count(8)", x.count(8), DeepWearer.BAD);
        Due.is("count(-1)", x.count(-1), DeepWearer.BAD);
    }

    private static void tape() {
        DeepWearer x = new DeepWearer();
        Due.is("tape(6, 0, 1)", x.tape(6, 0, 1), DeepWearer.NONE);
        Due.is("tape(-1, 9, 99)", x.tape(-1, 9, 99), DeepWearer.NONE);
        Due.is("tape(0, 5, 1)", x.tape(0, 5, 1), DeepWearer.BAD);
        Due.is("tape(0, -2, -1)", x.tape(0, -2, -1), DeepWearer.BAD);
        Due.is("tape(0, 0, 61)", x.tape(0, 0, 61), DeepWearer.BAD);
        Due.is("tape(0, 0, -1)", x.tape(0, 0, -1), SIZE);
        Due.is("it holds nothing still", x.item(0, 0, 1), NOTHING);
        Due.is("tape(0, 4, 60)", x.tape(0, 4, 60), 1);
        Due.is("the last item", x.item(0, 59, 1), 1);
        Due.is("a refused one leaves it", x.tape(0, 0, -1), SIZE);
        Due.is("the last item", x.read(0, 59), 1);
        Due.is("made anew", x.tape(0, 0, 60), 1);
        Due.is("all 0", x.read(0, 59), 0);
        Due.is("tape(0, 0, 0)", x.tape(0, 0, 0), 1);
        Due.is("a row of none has no place", x.item(0, 0, 1), PLACE);
        Due.is("it is a row", x.shift(0, 0, 0, 0, 0), 0);
        Due.is("tape(5, 3, 1)", x.tape(5, 3, 1), 1);
        Due.is("tape(5, -1, -99)", x.tape(5, -1, -99), 1);
        Due.is("it holds nothing", x.item(5, 0, 1), NOTHING);
        Due.is("tape(6, -1, 0)", x.tape(6, -1, 0), DeepWearer.NONE);
    }

    private static void item() {
        DeepWearer x = new DeepWearer();
        long[] values = {200, -40000, 1L << 31, (1L << 40) + 7, 256, 0};
        long[][] kept = {
            {-56, -64, 0, 7, 0, 0},
            {200, 25536, 0, 7, 256, 0},
            {200, -40000, Integer.MIN_VALUE, 7, 256, 0},
            {200, -40000, 1L << 31, (1L << 40) + 7, 256, 0},
            {1, 1, 1, 1, 1, 0},
        };
        for (int sort = 0; sort <= 4; sort++) {
            x.tape(1, sort, 6);
            for (int i = 0; i < 6; i++) {
                Due.is("item " + i + " of sort " + sort, x.item(1, i, values[i]), 1);
            }
            for (int i = 0; i < 6; i++) {
                Due.is("read " + i + " of sort " + sort, x.read(1, i), kept[sort][i]);
            }
        }
        Due.is("item(6, 0, 0)", x.item(6, 0, 0), DeepWearer.NONE);
        Due.is("item(-1, 0, 0)", x.item(-1, 0, 0), DeepWearer.NONE);
        Due.is("item(2, -1, 0)", x.item(2, -1, 0), NOTHING);
        Due.is("item(1, 6, 0)", x.item(1, 6, 0), PLACE);
        Due.is("item(1, -1, 0)", x.item(1, -1, 0), PLACE);
    }

    private static void read() {
        DeepWearer x = new DeepWearer();
        x.tape(5, 3, 2);
        x.item(5, 1, Long.MAX_VALUE);
        Due.is("read(5, 0)", x.read(5, 0), 0);
        Due.is("read(5, 1)", x.read(5, 1), Long.MAX_VALUE);
        Due.is("read(5, 2)", x.read(5, 2), DeepWearer.NO);
        Due.is("read(5, -1)", x.read(5, -1), DeepWearer.NO);
        Due.is("read(4, 0)", x.read(4, 0), DeepWearer.NO);
        Due.is("read(6, 0)", x.read(6, 0), DeepWearer.NO);
        Due.is("read(-1, 0)", x.read(-1, 0), DeepWearer.NO);
    }

    private static void row(DeepWearer x, int tape, int... items) {
        for (int i = 0; i < items.length; i++) {
            Due.is("read(" + tape + ", " + i + ")", x.read(tape, i), items[i]);
        }
    }

    private static void shift() {
        DeepWearer x = new DeepWearer();
        x.tape(0, 2, 5);
        x.tape(1, 2, 3);
        x.tape(2, 1, 5);
        for (int i = 0; i < 5; i++) {
            x.item(0, i, i + 1);
        }
        Due.is("to another one", x.shift(0, 2, 1, 0, 3), 3);
        row(x, 1, 3, 4, 5);
        row(x, 0, 1, 2, 3, 4, 5);
        Due.is("on, in the same", x.shift(0, 0, 0, 1, 4), 4);
        row(x, 0, 1, 1, 2, 3, 4);
        Due.is("back, in the same", x.shift(0, 2, 0, 0, 3), 3);
        row(x, 0, 2, 3, 4, 3, 4);
        Due.is("none", x.shift(0, 5, 1, 3, 0), 0);
        Due.is("no TAPE", x.shift(6, 0, 1, 0, 1), DeepWearer.NONE);
        Due.is("no TAPE", x.shift(0, 0, -1, 0, 1), DeepWearer.NONE);
        Due.is("nothing there", x.shift(3, 0, 0, 0, -1), NOTHING);
        Due.is("nothing there", x.shift(0, 0, 3, 0, -1), NOTHING);
        Due.is("unlike sorts", x.shift(0, 0, 2, 0, -1), CAST);
        Due.is("n below 0", x.shift(0, 0, 1, 0, -1), PLACE);
        Due.is("i below 0", x.shift(0, -1, 1, 0, 1), PLACE);
        Due.is("j below 0", x.shift(0, 0, 1, -1, 1), PLACE);
        Due.is("beyond the one", x.shift(0, 3, 1, 0, 3), PLACE);
        Due.is("beyond the other", x.shift(0, 0, 1, 1, 3), PLACE);
        Due.is("none, beyond the one", x.shift(0, 6, 1, 0, 0), PLACE);
        Due.is("none, beyond the other", x.shift(0, 0, 1, 4, 0), PLACE);
        Due.is("far beyond", x.shift(0, Integer.MAX_VALUE, 1, 0, Integer.MAX_VALUE), PLACE);
        Due.is("far beyond", x.shift(0, 1, 1, 1, Integer.MAX_VALUE), PLACE);
        Due.is("far below", x.shift(0, 0, 1, 0, Integer.MIN_VALUE), PLACE);
        row(x, 0, 2, 3, 4, 3, 4);
        row(x, 1, 3, 4, 5);
    }
}

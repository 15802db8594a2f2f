/** Promises 1 to 13: wearers, things, towns. */
public final class WearersTest {
    public static void main(String[] args) {
        aNewObject();
        wearer();
        thing();
        ofEachKind();
        ofThings();
        at();
        think();
        leave();
        fetch();
        drop();
        row();
        feed();
        town();
        townClauses();
        townBehindAFault();
        townFaults();
        townTests();
        told();
        Due.end();
    }

    private static void aNewObject() {
        DeepWearer x = new DeepWearer();
        for (int what = 0; what <= 7; what++) {
            Due.is("new: count(" + what + ")", x.count(what), 0);
        }
        Due.is("new: told(0)", x.told(0), 0);
        Due.is("new: told(1)", x.told(1), 10);
        Due.is("new: told(2)", x.told(2), 0);
        Due.is("new: told(3)", x.told(3), 5);
        Due.is("new: told(4)", x.told(4), 0);
        Due.is("new: undo()", x.undo(), DeepWearer.STATE);
        Due.is("new: of(0, 0)", x.of(0, 0), -1001);
        Due.is("new: at(0, 0)", x.at(0, 0), DeepWearer.NONE);
        Due.is("new: read(0, 0)", x.read(0, 0), DeepWearer.NO);
        Due.is("new: trace(0)", x.trace(0), DeepWearer.NONE);
    }

    private static void wearer() {
        DeepWearer x = new DeepWearer();
        Due.is("wearer(-1, 0, 0)", x.wearer(-1, 0, 0), DeepWearer.NONE);
        Due.is("wearer(7, 0, 0)", x.wearer(7, 0, 0), DeepWearer.NONE);
        Due.is("wearer(7, 10, 0)", x.wearer(7, 10, 0), DeepWearer.NONE);
        Due.is("wearer(0, -1, 0)", x.wearer(0, -1, 0), DeepWearer.BAD);
        Due.is("wearer(0, 10, 0)", x.wearer(0, 10, 0), DeepWearer.BAD);
        Due.is("wearer(0, 0, -1)", x.wearer(0, 0, -1), DeepWearer.BAD);
        Due.is("wearer(0, 0, 100)", x.wearer(0, 0, 100), DeepWearer.BAD);
        Due.is("refused wearers", x.count(0), 0);
        Due.is("wearer(0, 0, 0)", x.wearer(0, 0, 0), 0);
        Due.is("wearer(6, 9, 99)", x.wearer(6, 9, 99), 1);
        Due.is("third", x.wearer(3, 1, 2), 2);
        Due.is("fourth", x.wearer(4, 1, 2), 3);
        Due.is("fifth", x.wearer(5, 1, 2), 4);
        Due.is("sixth", x.wearer(5, 1, 2), DeepWearer.FULL);
        Due.is("sixth of no kind", x.wearer(7, 1, 2), DeepWearer.NONE);
        Due.is("sixth with a bad v", x.wearer(0, 10, 2), DeepWearer.BAD);
        Due.is("five wearers", x.count(0), 5);
        Due.is("KIND of the second", x.of(1, 0), 6);
        Due.is("v of the second", x.of(1, 1), 9);
        Due.is("THOUGHT of the second", x.of(1, 2), 99);
        Due.is("not GONE at first", x.of(1, 3), 0);
    }

    private static void thing() {
        DeepWearer x = new DeepWearer();
        Due.is("thing without wearers", x.thing(1, 0), DeepWearer.NONE);
        x.wearer(0, 0, 9);
        Due.is("thing(1, -1)", x.thing(1, -1), DeepWearer.NONE);
        Due.is("thing(10, 1)", x.thing(10, 1), DeepWearer.NONE);
        Due.is("thing(-1, 0)", x.thing(-1, 0), DeepWearer.BAD);
        Due.is("thing(10, 0)", x.thing(10, 0), DeepWearer.BAD);
        for (int n = 0; n < 6; n++) {
            Due.is("thing " + n, x.thing(9 - n, 0), n);
        }
        Due.is("seventh", x.thing(1, 0), DeepWearer.FULL);
        Due.is("seventh, of nobody", x.thing(1, 1), DeepWearer.NONE);
        Due.is("seventh, bad", x.thing(10, 0), DeepWearer.BAD);
        Due.is("six things", x.count(1), 6);
        Due.is("at the lip", x.at(5, 2), 0);
    }

    private static void ofEachKind() {
        int[] floors = {99, 19, 297, 99, 28, 387, 99};
        int[] arms = {19, 24, 19, 19, 24, 38, 19};
        for (int kind = 0; kind <= 6; kind++) {
            DeepWearer x = new DeepWearer();
            x.wearer(kind, 9, 99);
            Due.is("KIND " + kind, x.of(0, 0), kind);
            Due.is("FLOOR of kind " + kind, x.of(0, 4), floors[kind]);
            Due.is("ARM of kind " + kind, x.of(0, 5), arms[kind]);
            x.leave(0, true);
            Due.is("GONE", x.of(0, 3), 1);
            Due.is("ARM of one GONE", x.of(0, 5), 0);
            Due.is("FLOOR of one GONE", x.of(0, 4), floors[kind]);
            Due.is("what 6", x.of(0, 6), -1001);
            Due.is("what -1", x.of(0, -1), -1001);
            Due.is("no thing 0", x.of(0, 10), -1001);
            Due.is("no thing 0", x.of(0, 20), -1001);
            Due.is("no wearer", x.of(1, 0), -1001);
            Due.is("no wearer", x.of(-1, 0), -1001);
        }
        DeepWearer x = new DeepWearer();
        x.wearer(1, 0, 14);
        x.wearer(4, 3, 14);
        Due.is("the fifth is cut", x.of(0, 4), 2);
        Due.is("the fifth is cut ahead of v", x.of(1, 4), 5);
    }

    private static void ofThings() {
        DeepWearer x = new DeepWearer();
        for (int kind = 0; kind < 5; kind++) {
            x.wearer(kind, 2, 50);
        }
        x.thing(7, 0);
        x.thing(1, 0);
        int[] sinksOfSeven = {7, 3, 7, 5, 3};
        int[] sinksOfOne = {1, 0, 1, 0, 0};
        for (int w = 0; w < 5; w++) {
            Due.is("PULL of " + w, x.of(w, 10), 7);
            Due.is("SINKS of " + w, x.of(w, 20), sinksOfSeven[w]);
            Due.is("SINKS of " + w, x.of(w, 21), sinksOfOne[w]);
        }
        Due.is("no thing 2", x.of(0, 12), -1001);
        Due.is("no thing 2", x.of(0, 22), -1001);
        Due.is("what 16", x.of(0, 16), -1001);
        Due.is("what 26", x.of(0, 26), -1001);
        Due.is("town", Due.town(x, "float 12 t<9"), 0);
        int[] below = {-5, -2, -5, 0, -2};
        for (int w = 0; w < 5; w++) {
            Due.is("PULL below 0 of " + w, x.of(w, 10), -5);
            Due.is("SINKS below 0 of " + w, x.of(w, 20), below[w]);
        }
        widowsAndTold();
    }

    private static void widowsAndTold() {
        DeepWearer x = new DeepWearer();
        x.wearer(5, 2, 50);
        x.wearer(6, 2, 50);
        x.thing(7, 0);
        x.thing(0, 0);
        Due.is("SINKS of a WIDOW", x.of(0, 20), 7);
        Due.is("SINKS of a TOLD", x.of(1, 20), 5);
        for (int part = 0; part < 4; part++) {
            x.row(1, part, part + 3);
        }
        for (int day = 0; day < 6; day++) {
            Due.is("SINKS of a TOLD by its ROW", x.of(1, 20), 5 + day % 4 + 3);
            Due.is("the ROW comes behind 0 at least", x.of(1, 21), day % 4 + 3);
            x.pass(1);
        }
    }

    private static void at() {
        DeepWearer x = new DeepWearer();
        x.wearer(0, 0, 50);
        x.wearer(2, 0, 50);
        x.thing(4, 1);
        Due.is("WEIGHT", x.at(0, 0), 4);
        Due.is("its WEARER", x.at(0, 1), 1);
        Due.is("how LOW", x.at(0, 2), 0);
        x.pass(2);
        Due.is("how LOW behind 2", x.at(0, 2), 8);
        Due.is("no thing", x.at(1, 0), DeepWearer.NONE);
        Due.is("no thing", x.at(-1, 0), DeepWearer.NONE);
        Due.is("no what", x.at(0, 3), DeepWearer.NONE);
        Due.is("no what", x.at(0, -1), DeepWearer.NONE);
        x.fetch(0);
        Due.is("WEIGHT of one OUT", x.at(0, 0), 4);
        Due.is("WEARER of one OUT", x.at(0, 1), -5);
        Due.is("how LOW one OUT lies", x.at(0, 2), -5);
    }

    private static void think() {
        DeepWearer x = new DeepWearer();
        x.wearer(0, 0, 50);
        x.thing(9, 0);
        x.pass(2);
        Due.is("think(1, 5)", x.think(1, 5), DeepWearer.NONE);
        Due.is("think(-1, 100)", x.think(-1, 100), DeepWearer.NONE);
        Due.is("think(0, 100)", x.think(0, 100), DeepWearer.BAD);
        Due.is("think(0, -1)", x.think(0, -1), DeepWearer.BAD);
        Due.is("think(0, 7)", x.think(0, 7), 50);
        Due.is("think(0, 7) again", x.think(0, 7), 7);
        Due.is("lies below FLOOR till the next DAY", x.at(0, 2), 18);
        x.pass(1);
        Due.is("then on FLOOR", x.at(0, 2), 7);
        Due.is("think(0, 0)", x.think(0, 0), 7);
        Due.is("think(0, 99)", x.think(0, 99), 0);
        Due.is("THOUGHT", x.of(0, 2), 99);
    }

    private static void leave() {
        DeepWearer x = new DeepWearer();
        x.wearer(0, 0, 50);
        Due.is("leave(1, true)", x.leave(1, true), DeepWearer.NONE);
        Due.is("leave(-1, true)", x.leave(-1, true), DeepWearer.NONE);
        Due.is("leave(0, false)", x.leave(0, false), 0);
        Due.is("leave(0, true)", x.leave(0, true), 0);
        Due.is("leave(0, true) again", x.leave(0, true), 1);
        Due.is("leave(0, false)", x.leave(0, false), 1);
        Due.is("not GONE", x.of(0, 3), 0);
    }

    private static void fetch() {
        DeepWearer x = new DeepWearer();
        x.wearer(2, 0, 50);
        x.wearer(0, 5, 50);
        x.thing(5, 0);
        x.thing(6, 0);
        Due.is("fetch(2)", x.fetch(2), DeepWearer.NONE);
        Due.is("fetch(-1)", x.fetch(-1), DeepWearer.NONE);
        x.pass(5);
        Due.is("30 lies beyond 25", x.fetch(1), DeepWearer.BAD);
        Due.is("it lies there still", x.at(1, 2), 30);
        Due.is("25 is within 25", x.fetch(0), 25);
        Due.is("it is OUT", x.at(0, 1), -5);
        Due.is("fetched once more", x.fetch(0), DeepWearer.STATE);
        x.pass(1);
        Due.is("one OUT sinks no more", x.at(0, 2), -5);
        x.drop(0, 0);
        x.pass(4);
        x.leave(0, true);
        Due.is("20 is beyond him who is not GONE", x.fetch(0), DeepWearer.BAD);
        x.leave(1, true);
        x.drop(0, 0);
        Due.is("at the lip nobody is needed", x.fetch(0), 0);
    }

    private static void drop() {
        DeepWearer x = new DeepWearer();
        x.wearer(0, 0, 50);
        x.wearer(2, 0, 50);
        x.thing(5, 0);
        x.pass(1);
        Due.is("drop(1, 0)", x.drop(1, 0), DeepWearer.NONE);
        Due.is("drop(-1, 0)", x.drop(-1, 0), DeepWearer.NONE);
        Due.is("drop(0, 2)", x.drop(0, 2), DeepWearer.NONE);
        Due.is("drop(0, -1)", x.drop(0, -1), DeepWearer.NONE);
        Due.is("it lies there still", x.at(0, 2), 5);
        Due.is("drop(0, 1)", x.drop(0, 1), 0);
        Due.is("at the lip", x.at(0, 2), 0);
        Due.is("its WEARER", x.at(0, 1), 1);
        x.fetch(0);
        Due.is("one OUT is dropped", x.drop(0, 0), -5);
        Due.is("its WEARER", x.at(0, 1), 0);
    }

    private static void row() {
        DeepWearer x = new DeepWearer();
        x.wearer(6, 0, 50);
        x.wearer(3, 0, 50);
        x.wearer(6, 0, 50);
        Due.is("row(3, 0, 1)", x.row(3, 0, 1), DeepWearer.NONE);
        Due.is("row(0, 4, 1)", x.row(0, 4, 1), DeepWearer.NONE);
        Due.is("row(0, -1, 1)", x.row(0, -1, 1), DeepWearer.NONE);
        Due.is("row(1, 4, 10)", x.row(1, 4, 10), DeepWearer.NONE);
        Due.is("row(1, 0, 10)", x.row(1, 0, 10), DeepWearer.BAD);
        Due.is("row(0, 0, -1)", x.row(0, 0, -1), DeepWearer.BAD);
        Due.is("row(1, 0, 9)", x.row(1, 0, 9), DeepWearer.STATE);
        Due.is("row(0, 3, 9)", x.row(0, 3, 9), 0);
        Due.is("row(0, 3, 4)", x.row(0, 3, 4), 9);
        Due.is("row(0, 3, 4)", x.row(0, 3, 4), 4);
        Due.is("another one's ROW", x.row(2, 3, 1), 0);
        Due.is("another part", x.row(0, 2, 1), 0);
    }

    private static void feed() {
        DeepWearer x = new DeepWearer();
        Due.is("feed(-1)", x.feed(-1), DeepWearer.BAD);
        Due.is("feed(128)", x.feed(128), DeepWearer.BAD);
        Due.is("feed(0)", x.feed(0), 1);
        Due.is("feed(127)", x.feed(127), 2);
        for (int n = 3; n <= 100; n++) {
            Due.is("feed " + n, x.feed('a'), n);
        }
        Due.is("feed 101", x.feed('a'), DeepWearer.FULL);
        Due.is("feed 101, bad", x.feed(128), DeepWearer.BAD);
        Due.is("THE TEXT", x.count(6), 100);
        Due.is("its FAULT", x.town(), -10);
        Due.is("THE TEXT is empty", x.count(6), 0);
    }

    private static void town() {
        DeepWearer x = new DeepWearer();
        Due.is("of no text", x.town(), -10);
        for (int n = 0; n < 6; n++) {
            Due.is("town " + n, Due.town(x, "reach " + (20 + n)), n);
            Due.is("the newest holds", x.told(1), 20 + n);
            Due.is("a fault", Due.town(x, "reach"), n < 5 ? -15 : DeepWearer.FULL);
            Due.is("the one that held holds", x.told(1), 20 + n);
        }
        Due.is("six towns", x.count(2), 6);
        Due.is("THE TEXT stays", x.count(6), 5);
        Due.is("once more", x.town(), DeepWearer.FULL);
    }

    private static void townClauses() {
        DeepWearer x = new DeepWearer();
        x.wearer(0, 0, 50);
        x.thing(1, 0);
        Due.is("all of it", Due.town(x, "reach 1;tide 2;lift 3;sink 4 p=0;float 2 p=0;sink 90 p=1;reach 99"), 0);
        Due.is("the last REACH", x.told(1), 99);
        Due.is("TIDE", x.told(2), 2);
        Due.is("LIFT", x.told(3), 3);
        Due.is("PULL", x.of(0, 10), 3);
        Due.is("only the newest holds", Due.town(x, "tide 07"), 1);
        Due.is("REACH without", x.told(1), 10);
        Due.is("TIDE by two digits", x.told(2), 7);
        Due.is("LIFT without", x.told(3), 5);
        Due.is("PULL without", x.of(0, 10), 1);
        Due.is("ten clauses", Due.town(x, "lift 1;lift 2;lift 3;lift 4;lift 5;lift 6;lift 7;lift 8;lift 9;lift 0"), 2);
        Due.is("LIFT", x.told(3), 0);
        Due.is("eleven", Due.town(x, "lift 1;lift 2;lift 3;lift 4;lift 5;lift 6;lift 7;lift 8;lift 9;lift 0;lift 1"), -79);
        StringBuilder most = new StringBuilder("sink 99 p=0");
        while (most.length() <= 95) {
            most.append("|p=1");
        }
        Due.is("a long one", Due.town(x, most.toString()), 3);
        Due.is("PULL", x.of(0, 10), 100);
    }

    private static void townBehindAFault() {
        DeepWearer x = new DeepWearer();
        x.wearer(0, 0, 50);
        x.thing(1, 0);
        Due.is("a fault at the end", Due.town(x, "reach 1;tide 2;lift 3;sink 4 p=0;sink 5 (p=0"), -10 - 44);
        Due.is("none holds", x.told(1), 10);
        Due.is("none holds", x.of(0, 10), 1);
        Due.is("no town", x.count(2), 0);
        Due.is("a town", Due.town(x, "float 1 p=1"), 0);
        Due.is("nothing is left of the fault: REACH", x.told(1), 10);
        Due.is("nothing is left of the fault: TIDE", x.told(2), 0);
        Due.is("nothing is left of the fault: LIFT", x.told(3), 5);
        Due.is("nothing is left of the fault: PULL", x.of(0, 10), 1);
    }

    private static void fault(String text, int place) {
        Due.is("fault of " + text, Due.town(new DeepWearer(), text), -10 - place);
    }

    private static void townFaults() {
        fault("x", 0);
        fault(";", 0);
        fault("sank 1 p=1", 1);
        fault("sink", 4);
        fault("sink  1 p=1", 5);
        fault("sink1 p=1", 4);
        fault("sink x", 5);
        fault("sink 1", 6);
        fault("sink 100 p=1", 7);
        fault("sink 1 ", 7);
        fault("sink 1  p=1", 7);
        fault("sink 1 x=1", 7);
        fault("sink 1 p", 8);
        fault("sink 1 p!1", 8);
        fault("sink 1 p=", 9);
        fault("sink 1 p==1", 9);
        fault("sink 1 p=100", 11);
        fault("sink 1 p=1 ", 10);
        fault("sink 1 p=1)", 10);
        fault("sink 1 p=1&", 11);
        fault("sink 1 p=1|;", 11);
        fault("sink 1 (p=1", 11);
        fault("sink 1 (p=1;", 11);
        fault("sink 1 ()", 8);
        fault("sink 1 !", 8);
        fault("reach 1 p=1", 7);
        fault("tide 123", 7);
        fault("lift 1;", 7);
        fault("lift 1;;", 7);
        fault("floats 1", 5);
        fault("sink 1 !!!!!p=1", 11);
        fault("sink 1 (!(!(p=1))))", 11);
        fault("sink 1 !(!(!p=1))", 11);
        fault("sink 1 (((((p=1)))))", 11);
    }

    private static void townTests() {
        // Wearer 1 of kind 4 with v 6, thing 2 of weight 8, 23 low (2 by 10).
        test("p=1", true);
        test("p<1", false);
        test("t=2", true);
        test("t>2", false);
        test("k=4", true);
        test("k<4", false);
        test("v=6", true);
        test("v>5", true);
        test("w=8", true);
        test("w<09", true);
        test("l=2", true);
        test("l>1", true);
        test("l=23", false);
        test("!p=1", false);
        test("!!p=1", true);
        test("!p=0&p=0", false);
        test("!(p=0&p=0)", true);
        test("p=1|p=0&p=0", true);
        test("p=0&p=0|p=1", true);
        test("p=0&(p=0|p=1)", false);
        test("(p=1|p=0)&p=0", false);
        test("p=0|p=0|t=2", true);
        test("p=1&t=2&k=4&v=6", true);
        test("p=1&t=2&k=4&v=5", false);
        test("((((p=1))))", true);
        test("!(!(p=1))", true);
        test("!!!!p=1", true);
        test("(!(!p=1)|p=0)&!p=0", true);
    }

    private static void test(String tests, boolean holds) {
        DeepWearer x = new DeepWearer();
        x.wearer(0, 0, 0);
        x.wearer(4, 6, 85);
        x.thing(0, 0);
        x.thing(0, 0);
        x.thing(8, 1);
        x.pass(10);
        Due.is("it lies on FLOOR", x.at(2, 2), 23);
        Due.is("town " + tests, Due.town(x, "sink 50 " + tests + ";float 7 " + tests), 0);
        Due.is("PULL by " + tests, x.of(1, 12), holds ? 51 : 8);
        Due.is("SINKS by " + tests, x.of(1, 22), holds ? 25 : 4);
        x.fetch(2);
        Due.is("town", Due.town(x, "sink 50 l=0"), 1);
        Due.is("one OUT lies 0 by 10", x.of(1, 12), 58);
    }

    private static void told() {
        DeepWearer x = new DeepWearer();
        x.wearer(1, 2, 90);
        x.wearer(2, 3, 90);
        x.thing(9, 0);
        x.thing(7, 1);
        x.thing(6, 1);
        Due.is("ARMS", x.told(4), 30);
        Due.is("all can be touched", x.told(5), 3);
        x.pass(2);
        Due.is("DAY", x.told(0), 2);
        Due.is("14 lies beyond 13", x.told(5), 2);
        x.leave(0, true);
        Due.is("ARMS", x.told(4), 13);
        Due.is("who is GONE touches nothing that lies low", x.told(5), 1);
        x.fetch(2);
        Due.is("none that is OUT", x.told(5), 0);
        Due.is("told(6)", x.told(6), DeepWearer.NONE);
        Due.is("told(-1)", x.told(-1), DeepWearer.NONE);
    }
}

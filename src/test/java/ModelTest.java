import java.util.Random;

/** Runs of chance calls, at most 512 an object, each answered by DeepWearer and by Model. */
public final class ModelTest {
    private static final int CALLS = 512;

    private final Random chance;
    private final DeepWearer x = new DeepWearer();
    private final Model m = new Model();
    private final String run;
    private int calls = 0;

    private ModelTest(long seed) {
        chance = new Random(seed);
        run = "run " + seed + ": ";
    }

    public static void main(String[] args) {
        int runs = args.length > 0 ? Integer.parseInt(args[0]) : 400;
        int from = args.length > 1 ? Integer.parseInt(args[1]) : 0;
        for (int seed = from; seed < from + runs && Due.wrongSoFar() < 20; seed++) {
            new ModelTest(seed).goes();
        }
        Due.end();
    }

    private void goes() {
        int wearers = chance.nextInt(6);
        for (int n = 0; n < wearers; n++) {
            wearer(chance.nextInt(7), chance.nextInt(10), chance.nextInt(100));
        }
        int things = chance.nextInt(7);
        for (int n = 0; n < things; n++) {
            thing(chance.nextInt(10), chance.nextInt(Math.max(1, wearers)));
        }
        while (calls < CALLS && Due.wrongSoFar() < 20) {
            step();
        }
    }

    /** A number up to last, or now and then one just off, or far. */
    private int upTo(int last) {
        switch (chance.nextInt(25)) {
            case 0: return -1;
            case 1: return last + 1;
            case 2: return far();
            default: return chance.nextInt(last + 1);
        }
    }

    private int far() {
        switch (chance.nextInt(4)) {
            case 0: return Integer.MIN_VALUE;
            case 1: return Integer.MAX_VALUE;
            default: return chance.nextInt();
        }
    }

    private void due(String call, long got, long want) {
        calls++;
        Due.is(run + calls + ": " + call, got, want);
    }

    private void wearer(int kind, int v, int thought) {
        due("wearer " + kind + " " + v + " " + thought, x.wearer(kind, v, thought), m.wearer(kind, v, thought));
    }

    private void thing(int weight, int wearer) {
        due("thing " + weight + " " + wearer, x.thing(weight, wearer), m.thing(weight, wearer));
    }

    private void step() {
        switch (chance.nextInt(12)) {
            case 0: case 1: change(); break;
            case 2: case 3: askWearersAndThings(); break;
            case 4: case 5: askDays(); break;
            case 6: askChains(); break;
            case 7: case 8: seen(); break;
            case 9: weeks(); break;
            case 10: imageAndActs(); break;
            default: tapes(); break;
        }
    }

    private void change() {
        int a = upTo(5), b = upTo(4), c = upTo(9), d = upTo(99);
        boolean is = chance.nextInt(3) == 0;
        switch (chance.nextInt(11)) {
            case 0: wearer(upTo(6), c, d); break;
            case 1: thing(c, b); break;
            case 2: due("think " + b + " " + d, x.think(b, d), m.think(b, d)); break;
            case 3: due("leave " + b + " " + is, x.leave(b, is), m.leave(b, is)); break;
            case 4: due("fetch " + a, x.fetch(a), m.fetch(a)); break;
            case 5: due("drop " + a + " " + b, x.drop(a, b), m.drop(a, b)); break;
            case 6: row(b, c); break;
            case 7: case 8: days(); break;
            case 9: due("told", x.told(a), m.told(a)); break;
            default: if (calls < CALLS - 100 && chance.nextInt(2) == 0) town(); break;
        }
    }

    private void row(int wearer, int n) {
        int part = upTo(3);
        due("row " + wearer + " " + part + " " + n, x.row(wearer, part, n), m.row(wearer, part, n));
    }

    private void days() {
        int n = chance.nextInt(3) == 0 ? upTo(60) : chance.nextInt(8);
        due("pass " + n, x.pass(n), m.pass(n));
    }

    private void town() {
        String text = chance.nextInt(8) == 0 ? spoilt(text()) : text();
        for (int i = 0; i < text.length(); i++) {
            int sign = chance.nextInt(200) == 0 ? upTo(127) : text.charAt(i);
            due("feed " + sign, x.feed(sign), m.feed(sign));
        }
        due("town " + text, x.town(), m.town());
        for (int what = 1; what <= 3; what++) {
            due("told " + what, x.told(what), m.told(what));
        }
    }

    private String text() {
        StringBuilder s = new StringBuilder(clause());
        while (chance.nextInt(4) != 0 && s.length() < 80) {
            s.append(';').append(clause());
        }
        return s.toString();
    }

    private String spoilt(String text) {
        StringBuilder s = new StringBuilder(text);
        int place = chance.nextInt(s.length());
        String signs = "sinkfloatreachtide 0123456789&|!()ptkvwl<=>;";
        char sign = signs.charAt(chance.nextInt(signs.length()));
        switch (chance.nextInt(4)) {
            case 0: s.deleteCharAt(place); break;
            case 1: s.insert(place, sign); break;
            case 2: s.setCharAt(place, sign); break;
            default: s.setLength(place); break;
        }
        return s.toString();
    }

    private int number() {
        return chance.nextInt(chance.nextInt(3) == 0 ? 100 : 10);
    }

    private String clause() {
        switch (chance.nextInt(7)) {
            case 0: case 1: return "sink " + number() + " " + either(0);
            case 2: case 3: return "float " + number() + " " + either(0);
            case 4: return "reach " + number();
            case 5: return "tide " + chance.nextInt(7);
            default: return "lift " + number();
        }
    }

    private String either(int within) {
        StringBuilder s = new StringBuilder(part(within));
        while (chance.nextInt(3) == 0) {
            s.append(chance.nextBoolean() ? '&' : '|').append(part(within));
        }
        return s.toString();
    }

    private String part(int within) {
        switch (within < (chance.nextInt(30) == 0 ? 5 : 4) ? chance.nextInt(5) : 4) {
            case 0: return "!" + part(within + 1);
            case 1: return "(" + either(within + 1) + ")";
            default: return "" + "ptkvwl".charAt(chance.nextInt(6)) + "<=>".charAt(chance.nextInt(3)) + number();
        }
    }

    private void askWearersAndThings() {
        int wearer = upTo(4), thing = upTo(5), what = upTo(26);
        due("of " + wearer + " " + what, x.of(wearer, what), m.of(wearer, what));
        due("at " + thing + " " + what % 4, x.at(thing, what % 4), m.at(thing, what % 4));
        due("told " + what % 7, x.told(what % 7), m.told(what % 7));
        due("count " + what % 9, x.count(what % 9), m.count(what % 9));
    }

    private void askDays() {
        int n = upTo(60), thing = upTo(5), what = upTo(1), part = upTo(1);
        int which = chance.nextInt(3) == 0 ? 0 : 10 + upTo(5);
        due("on " + n + " " + which, x.on(n, which), m.on(n, which));
        due("when " + thing + " " + what, x.when(thing, what), m.when(thing, what));
        due("mean " + n + " " + part, x.mean(n, part), m.mean(n, part));
        due("odds " + n + " " + thing + " " + part, x.odds(n, thing, part), m.odds(n, thing, part));
    }

    private void askChains() {
        int thing = upTo(5), wearer = upTo(4), q = chance.nextInt(4) == 0 ? upTo(999) : upTo(100);
        due("chain " + thing, x.chain(thing), m.chain(thing));
        due("best " + thing, x.best(thing), m.best(thing));
        due("deepen " + wearer + " " + q, x.deepen(wearer, q), m.deepen(wearer, q));
        int from = chance.nextInt(4) == 0 ? -2 : 9;
        for (int k = from; k <= 6; k++) {
            due("fetched " + k, x.fetched(k), m.fetched(k));
        }
    }

    private void seen() {
        int thing = chance.nextInt(6) == 0 ? -1 : upTo(5), n = upTo(20);
        int low = chance.nextInt(10) == 0 ? upTo(999) : Math.max(0, m.on(chance.nextInt(4) == 0 ? 3 : n, 10 + thing));
        due("see " + thing + " " + low + " " + n, x.see(thing, low, n), m.see(thing, low, n));
        int what = upTo(1);
        for (int t = 0; t < 6; t += 1 + chance.nextInt(3)) {
            due("lay " + t + " " + what, x.lay(t, what), m.lay(t, what));
            due("can " + t + " " + what, x.can(t, what), m.can(t, what));
        }
    }

    private void weeks() {
        int what = chance.nextInt(12) == 0 ? -1 : chance.nextInt(2) == 0 ? 0 : upTo(3), n = upTo(chance.nextInt(2) == 0 ? 4 : 99);
        due("week " + what + " " + n, x.week(what, n), m.week(what, n));
        for (int asked = 0; asked <= 2; asked++) {
            due("ends " + asked, x.ends(asked), m.ends(asked));
        }
        int thing = chance.nextInt(8) == 0 ? -1 : upTo(5);
        int low = chance.nextInt(5) == 0 ? upTo(999) : Math.max(0, m.at(thing, 2));
        due("book " + thing + " " + low, x.book(thing, low), m.book(thing, low));
        due("looked", x.looked(), m.looked());
    }

    private void imageAndActs() {
        int wearer = upTo(4), act = upTo(2), number = chance.nextInt(3) == 0 ? chance.nextInt() : upTo(50);
        if (chance.nextInt(4) == 0) {
            due("image", x.image(), m.image());
        }
        if (chance.nextInt(5) == 0) {
            due("undo", x.undo(), m.undo());
        }
        due("act " + wearer + " " + act + " " + number, x.act(wearer, act, number), m.act(wearer, act, number));
        int i = upTo(14), k = upTo(6);
        due("trace " + i, x.trace(i), m.trace(i));
        due("count 7", x.count(7), m.count(7));
        due("taken " + wearer + " " + k, x.taken(wearer, k), m.taken(wearer, k));
    }

    private void tapes() {
        int tape = upTo(5), other = upTo(5), i = upTo(8), j = upTo(8), n = upTo(6);
        int sort = chance.nextInt(3) == 0 ? 1 : upTo(4), size = chance.nextInt(9) == 0 ? upTo(60) : upTo(10);
        long v = chance.nextInt(3) == 0 ? chance.nextLong() : chance.nextInt(300) - 100;
        switch (chance.nextInt(6)) {
            case 0: due("tape " + tape + " " + sort + " " + size, x.tape(tape, sort, size), m.tape(tape, sort, size)); break;
            case 1: due("item " + tape + " " + i + " " + v, x.item(tape, i, v), m.item(tape, i, v)); break;
            case 2: due("read " + tape + " " + i, x.read(tape, i), m.read(tape, i)); break;
            case 3: due("shift", x.shift(tape, i, other, j, n), m.shift(tape, i, other, j, n)); break;
            case 4: judged(tape); break;
            default: due("judge " + tape + " " + i, x.judge(tape, i), m.judge(tape, i)); break;
        }
    }

    /** A row of shorts that tells most things as they lie. */
    private void judged(int tape) {
        int from = chance.nextInt(3);
        int size = 2 + chance.nextInt(8);
        due("tape", x.tape(tape, 1, size), m.tape(tape, 1, size));
        for (int t = 0; t < 6; t++) {
            int low = m.at(t, 2) + (chance.nextInt(20) == 0 ? 1 : 0);
            due("item", x.item(tape, from + t, low), m.item(tape, from + t, low));
        }
        due("judge " + tape + " " + from, x.judge(tape, from), m.judge(tape, from));
    }
}

import java.util.ArrayList;
import java.util.List;
import java.util.regex.Matcher;
import java.util.regex.Pattern;

/**
 * The document once more, written as plainly as it reads and with all of Java: whole copies for what
 * is asked, every order and every set tried, kinds as classes, towns read by patterns. ModelTest lets
 * it answer beside DeepWearer; an answer in which the two differ is a fault of one of them.
 */
final class Model {
    static final int NONE = -1, BAD = -2, STATE = -3, FULL = -4;
    static final long NO = Long.MIN_VALUE;

    static class Wearer implements Cloneable {
        Model of;
        int i, v, thought;
        boolean gone;
        int[] row = new int[4];

        int kind() { return 0; }
        int floor() { return thought; }
        int reaching(int reach) { return reach + v; }
        int sinks(int pull, int day) { return pull; }
        int gropes(int x) { of.ran.add(10); return x + i; }
        int thinks(int x) { of.ran.add(11); return gropes(x) - v; }
        int tells(int x) { of.ran.add(12); return thinks(x) * 2; }

        int arm(int reach) { return gone ? 0 : reaching(reach); }

        Wearer copy() {
            try {
                Wearer w = (Wearer) clone();
                w.row = row.clone();
                return w;
            } catch (CloneNotSupportedException e) {
                throw new IllegalStateException(e);
            }
        }
    }

    static class Light extends Wearer {
        @Override int kind() { return 1; }
        @Override int floor() { return thought / 5; }
        @Override int reaching(int reach) { return super.reaching(reach) + 5; }
        @Override int sinks(int pull, int day) { return pull < 0 ? -(-pull / 2) : pull / 2; }
        @Override int thinks(int x) { of.ran.add(20); return super.thinks(x) ^ 6; }
    }

    static class Deep extends Wearer {
        @Override int kind() { return 2; }
        @Override int floor() { return 3 * thought; }
        @Override int gropes(int x) { of.ran.add(30); return super.gropes(x * 3); }
    }

    static class Felt extends Wearer {
        @Override int kind() { return 3; }
        @Override int sinks(int pull, int day) { return pull < 2 ? 0 : pull - 2; }
        @Override int tells(int x) { of.ran.add(40); return super.tells(x) + thinks(1); }
    }

    static class Rattle extends Light {
        @Override int kind() { return 4; }
        @Override int floor() { return super.floor() + v; }
        @Override int gropes(int x) { of.ran.add(50); return -super.gropes(x); }
        @Override int thinks(int x) { of.ran.add(51); return super.thinks(x + 1); }
    }

    static class Widow extends Deep {
        @Override int kind() { return 5; }
        @Override int floor() { return super.floor() + 10 * v; }
        @Override int reaching(int reach) { return 2 * super.reaching(reach); }
        @Override int tells(int x) { of.ran.add(60); return super.tells(x - i); }
    }

    static class Told extends Felt {
        @Override int kind() { return 6; }
        @Override int sinks(int pull, int day) { return super.sinks(pull, day) + row[day % 4]; }
        @Override int thinks(int x) { of.ran.add(70); return super.thinks(x) + super.gropes(2); }
        @Override int gropes(int x) { of.ran.add(71); return super.gropes(x) ^ v; }
    }

    static Wearer ofKind(int kind) {
        switch (kind) {
            case 0: return new Wearer();
            case 1: return new Light();
            case 2: return new Deep();
            case 3: return new Felt();
            case 4: return new Rattle();
            case 5: return new Widow();
            default: return new Told();
        }
    }

    static final class Thing {
        int number, weight, wearer, low;
        boolean out;

        Thing copy() {
            Thing t = new Thing();
            t.number = number;
            t.weight = weight;
            t.wearer = wearer;
            t.low = low;
            t.out = out;
            return t;
        }

        int lies() { return out ? -5 : low; }
    }

    static final class Town {
        static final String TEST = "[ptkvwl][<=>][0-9]{1,2}";
        static final Pattern TEXT = Pattern.compile(text());
        final String[] clauses;

        Town(String text) { clauses = text.isEmpty() ? new String[0] : text.split(";"); }

        private static String text() {
            // Within four others no ( or ! begins: the innermost part is a test alone.
            String part = TEST;
            for (int depth = 3; depth >= 0; depth--) {
                String either = "(?:" + part + ")(?:[&|](?:" + part + "))*";
                part = "!(?:" + part + ")|\\((?:" + either + ")\\)|" + TEST;
            }
            String either = "(?:" + part + ")(?:[&|](?:" + part + "))*";
            String clause = "(?:(?:sink|float) [0-9]{1,2} " + either + "|(?:reach|tide|lift) [0-9]{1,2})";
            return clause + "(?:;" + clause + "){0,9}";
        }

        /** -1: the text is a town; else the length of the longest beginning that could become one. */
        static int fault(String text) {
            if (TEXT.matcher(text).matches()) {
                return -1;
            }
            for (int n = 0; n < text.length(); n++) {
                Matcher m = TEXT.matcher(text.substring(0, n + 1));
                if (!m.matches() && !m.hitEnd()) {
                    return n;
                }
            }
            return text.length();
        }

        int last(String word, int without) {
            int n = without;
            for (String clause : clauses) {
                if (clause.startsWith(word + " ")) {
                    n = Integer.parseInt(clause.substring(word.length() + 1));
                }
            }
            return n;
        }

        int pull(Wearer w, Thing t) {
            int pull = t.weight;
            for (String clause : clauses) {
                String[] parts = clause.split(" ");
                if (parts.length == 3 && either(parts[2], w, t)) {
                    pull += (parts[0].equals("sink") ? 1 : -1) * Integer.parseInt(parts[1]);
                }
            }
            return pull;
        }

        private static List<String> split(String text, char by) {
            List<String> parts = new ArrayList<>();
            int open = 0;
            int from = 0;
            for (int i = 0; i < text.length(); i++) {
                char c = text.charAt(i);
                open += c == '(' ? 1 : c == ')' ? -1 : 0;
                if (c == by && open == 0) {
                    parts.add(text.substring(from, i));
                    from = i + 1;
                }
            }
            parts.add(text.substring(from));
            return parts;
        }

        private static boolean either(String text, Wearer w, Thing t) {
            return split(text, '|').stream().anyMatch(
                both -> split(both, '&').stream().allMatch(part -> part(part, w, t)));
        }

        private static boolean part(String text, Wearer w, Thing t) {
            if (text.startsWith("!")) {
                return !part(text.substring(1), w, t);
            }
            if (text.startsWith("(")) {
                return either(text.substring(1, text.length() - 1), w, t);
            }
            int fact;
            switch (text.charAt(0)) {
                case 'p': fact = w.i; break;
                case 't': fact = t.number; break;
                case 'k': fact = w.kind(); break;
                case 'v': fact = w.v; break;
                case 'w': fact = t.weight; break;
                default: fact = t.out ? 0 : t.low / 10; break;
            }
            int n = Integer.parseInt(text.substring(2));
            char sign = text.charAt(1);
            return sign == '<' ? fact < n : sign == '=' ? fact == n : fact > n;
        }
    }

    /** How all is. */
    static final class All {
        List<Wearer> wearers = new ArrayList<>();
        List<Thing> things = new ArrayList<>();
        int day;
        Town town = new Town("");
        List<int[]> seen = new ArrayList<>();
        List<int[]> week = new ArrayList<>();
        List<int[]> book = new ArrayList<>();

        All copy() {
            All a = new All();
            wearers.forEach(w -> a.wearers.add(w.copy()));
            things.forEach(t -> a.things.add(t.copy()));
            a.day = day;
            a.town = town;
            a.seen.addAll(seen);
            a.week.addAll(week);
            a.book.addAll(book);
            return a;
        }

        All behind(int days) {
            All a = copy();
            for (int d = 0; d < days; d++) {
                a.dayGoes();
            }
            return a;
        }

        void dayGoes() {
            int tide = town.last("tide", 0);
            for (Thing t : things) {
                if (!t.out) {
                    Wearer w = wearers.get(t.wearer);
                    int low = t.low + w.sinks(town.pull(w, t), day);
                    if (tide > 0 && (day + 1) % tide == 0) {
                        low -= town.last("lift", 5);
                    }
                    low = low > w.floor() ? w.floor() : low;
                    t.low = low < 0 ? 0 : low;
                }
            }
            day++;
        }

        int reach() { return town.last("reach", 10); }

        int armsOfAll() { return wearers.stream().mapToInt(w -> w.arm(reach())).sum(); }

        int touched() {
            return (int) things.stream()
                .filter(t -> !t.out && wearers.get(t.wearer).arm(reach()) >= t.low).count();
        }

        boolean within(int t) { return !things.get(t).out && armsOfAll() >= things.get(t).low; }

        boolean seenIsSo() {
            for (int[] row : seen) {
                if (behind(row[2]).things.get(row[0]).lies() != row[1]) {
                    return false;
                }
            }
            return true;
        }
    }

    All all = new All();
    All imaged;
    int towns;
    String text = "";
    List<Integer> ran = new ArrayList<>();
    Object[] tapes = new Object[6];

    boolean noWearer(int w) { return w < 0 || w >= all.wearers.size(); }
    boolean noThing(int t) { return t < 0 || t >= all.things.size(); }
    static boolean off(int n, int last) { return n < 0 || n > last; }

    int wearer(int kind, int v, int thought) {
        if (off(kind, 6)) return NONE;
        if (off(v, 9) || off(thought, 99)) return BAD;
        if (all.wearers.size() == 5) return FULL;
        Wearer w = ofKind(kind);
        w.of = this;
        w.i = all.wearers.size();
        w.v = v;
        w.thought = thought;
        all.wearers.add(w);
        return w.i;
    }

    int thing(int weight, int wearer) {
        if (noWearer(wearer)) return NONE;
        if (off(weight, 9)) return BAD;
        if (all.things.size() == 6) return FULL;
        Thing t = new Thing();
        t.number = all.things.size();
        t.weight = weight;
        t.wearer = wearer;
        all.things.add(t);
        return t.number;
    }

    int of(int wearer, int what) {
        if (noWearer(wearer)) return -1001;
        Wearer w = all.wearers.get(wearer);
        if (what == 0) return w.kind();
        if (what == 1) return w.v;
        if (what == 2) return w.thought;
        if (what == 3) return w.gone ? 1 : 0;
        if (what == 4) return w.floor();
        if (what == 5) return w.arm(all.reach());
        for (Thing t : all.things) {
            if (what == 10 + t.number) return all.town.pull(w, t);
            if (what == 20 + t.number) return w.sinks(all.town.pull(w, t), all.day);
        }
        return -1001;
    }

    int at(int thing, int what) {
        if (noThing(thing) || off(what, 2)) return NONE;
        Thing t = all.things.get(thing);
        return what == 0 ? t.weight : what == 2 ? t.lies() : t.out ? -5 : t.wearer;
    }

    int think(int wearer, int n) {
        if (noWearer(wearer)) return NONE;
        if (off(n, 99)) return BAD;
        int before = all.wearers.get(wearer).thought;
        all.wearers.get(wearer).thought = n;
        return before;
    }

    int leave(int wearer, boolean is) {
        if (noWearer(wearer)) return NONE;
        boolean before = all.wearers.get(wearer).gone;
        all.wearers.get(wearer).gone = is;
        return before ? 1 : 0;
    }

    int fetch(int thing) {
        if (noThing(thing)) return NONE;
        Thing t = all.things.get(thing);
        if (t.out) return STATE;
        if (!all.within(thing)) return BAD;
        t.out = true;
        return t.low;
    }

    int drop(int thing, int wearer) {
        if (noThing(thing) || noWearer(wearer)) return NONE;
        int before = at(thing, 1);
        Thing t = all.things.get(thing);
        t.out = false;
        t.wearer = wearer;
        t.low = 0;
        return before;
    }

    int row(int wearer, int part, int n) {
        if (noWearer(wearer) || off(part, 3)) return NONE;
        if (off(n, 9)) return BAD;
        Wearer w = all.wearers.get(wearer);
        if (!(w instanceof Told)) return STATE;
        int before = w.row[part];
        w.row[part] = n;
        return before;
    }

    int feed(int sign) {
        if (off(sign, 127)) return BAD;
        if (text.length() == 100) return FULL;
        text += (char) sign;
        return text.length();
    }

    int town() {
        if (towns == 6) return FULL;
        String read = text;
        text = "";
        int fault = Town.fault(read);
        if (fault >= 0) return -10 - fault;
        all.town = new Town(read);
        return towns++;
    }

    int told(int what) {
        switch (what) {
            case 0: return all.day;
            case 1: return all.reach();
            case 2: return all.town.last("tide", 0);
            case 3: return all.town.last("lift", 5);
            case 4: return all.armsOfAll();
            case 5: return all.touched();
            default: return NONE;
        }
    }

    int pass(int n) {
        if (off(n, 60)) return BAD;
        if (all.day + n > 9999) return STATE;
        all = all.behind(n);
        return all.day;
    }

    int on(int n, int what) {
        if (what != 0 && (what < 10 || noThing(what - 10))) return NONE;
        if (off(n, 60)) return BAD;
        All then = all.behind(n);
        return what == 0 ? then.touched() : then.things.get(what - 10).lies();
    }

    int when(int thing, int what) {
        if (noThing(thing) || off(what, 1)) return NONE;
        All then = all.copy();
        for (int d = 0; d <= 60; d++) {
            Thing t = then.things.get(thing);
            Wearer w = then.wearers.get(t.wearer);
            if (!t.out && (what == 0 ? w.arm(then.reach()) < t.low : t.low >= w.floor())) {
                return d;
            }
            then.dayGoes();
        }
        return -5;
    }

    int chain(int thing) {
        if (noThing(thing)) return NONE;
        Thing t = all.things.get(thing);
        if (t.out) return -5;
        for (int size = 0; size <= 5; size++) {
            for (int set = 0; set < 32; set++) {
                int arms = 0;
                boolean fits = Integer.bitCount(set) == size;
                for (int w = 0; w < 5; w++) {
                    if ((set & 1 << w) != 0) {
                        fits &= !noWearer(w) && !all.wearers.get(w).gone;
                        arms += fits ? all.wearers.get(w).arm(all.reach()) : 0;
                    }
                }
                if (fits && arms >= t.low) return set;
            }
        }
        return -5;
    }

    int best(int thing) {
        if (noThing(thing)) return NONE;
        if (all.things.get(thing).out) return -5;
        int best = -5;
        int highest = Integer.MAX_VALUE;
        for (Wearer w : all.wearers) {
            if (!w.gone) {
                All then = all.copy();
                Thing t = then.things.get(thing);
                t.wearer = w.i;
                t.low = t.low > w.floor() ? w.floor() : t.low;
                int low = then.behind(20).things.get(thing).low;
                if (low < highest) {
                    highest = low;
                    best = w.i;
                }
            }
        }
        return best;
    }

    int fetched(int k) {
        if (k < -1 || k > 5) return NONE;
        List<Integer> in = new ArrayList<>();
        all.things.stream().filter(t -> !t.out).forEach(t -> in.add(t.number));
        List<All> days = new ArrayList<>();
        for (int d = 0; d < in.size(); d++) {
            days.add(all.behind(d));
        }
        List<List<Integer>> orders = new ArrayList<>();
        orders(in, new ArrayList<>(), orders);
        int most = -1;
        List<Integer> first = null;
        for (List<Integer> order : orders) {
            int had = 0;
            for (int d = 0; d < order.size(); d++) {
                had += days.get(d).within(order.get(d)) ? 1 : 0;
            }
            if (had > most) {
                most = had;
                first = order;
            }
        }
        return k == -1 ? most : k < first.size() ? first.get(k) : -5;
    }

    private static void orders(List<Integer> left, List<Integer> so, List<List<Integer>> orders) {
        if (left.isEmpty()) {
            orders.add(new ArrayList<>(so));
        }
        for (Integer next : left) {
            List<Integer> others = new ArrayList<>(left);
            others.remove(next);
            so.add(next);
            orders(others, so, orders);
            so.remove(so.size() - 1);
        }
    }

    int deepen(int wearer, int q) {
        if (noWearer(wearer)) return NONE;
        if (off(q, 999)) return BAD;
        Wearer w = all.wearers.get(wearer).copy();
        for (w.thought = 0; w.thought <= 99; w.thought++) {
            if (w.floor() >= q) return w.thought;
        }
        return -5;
    }

    int see(int thing, int low, int n) {
        if (thing == -1) {
            all.seen.clear();
            return 0;
        }
        if (noThing(thing)) return NONE;
        if (off(low, 999) || off(n, 20)) return BAD;
        if (all.seen.size() == 5) return FULL;
        all.seen.add(new int[] {thing, low, n});
        return all.seen.size();
    }

    int lay(int thing, int what) {
        if (noThing(thing) || off(what, 1)) return NONE;
        List<Integer> fit = new ArrayList<>();
        for (int n = 0; n <= 40; n++) {
            All then = all.copy();
            then.things.get(thing).low = n;
            if (!then.things.get(thing).out && then.seenIsSo()) {
                fit.add(n);
            }
        }
        return what == 0 ? fit.size() : fit.isEmpty() ? -5 : fit.get(0);
    }

    int can(int wearer, int what) {
        if (noWearer(wearer) || off(what, 1)) return NONE;
        List<Integer> fit = new ArrayList<>();
        for (int n = 0; n <= 9; n++) {
            All then = all.copy();
            then.wearers.get(wearer).v = n;
            if (then.seenIsSo()) {
                fit.add(n);
            }
        }
        return what == 0 ? fit.size() : fit.isEmpty() ? -5 : fit.get(0);
    }

    private static long fraction(long above, long below, int part) {
        for (long by = below; by > 1; by--) {
            if (above % by == 0 && below % by == 0) {
                above /= by;
                below /= by;
            }
        }
        return part == 0 ? above : below;
    }

    long odds(int n, int thing, int part) {
        if (off(n, 60) || noThing(thing) || off(part, 1) || all.wearers.isEmpty()) return NO;
        int within = 0;
        for (int w = 0; w < all.wearers.size(); w++) {
            All then = all.copy();
            then.wearers.get(w).gone = true;
            within += then.behind(n).within(thing) ? 1 : 0;
        }
        return fraction(within, all.wearers.size(), part);
    }

    long mean(int n, int part) {
        if (off(n, 60) || off(part, 1)) return NO;
        int many = 0;
        int lows = 0;
        for (Thing t : all.behind(n).things) {
            many += t.out ? 0 : 1;
            lows += t.out ? 0 : t.low;
        }
        return many == 0 ? NO : fraction(lows, many, part);
    }

    int week(int what, int n) {
        if (what == -1) {
            all.week.clear();
            return 0;
        }
        if (off(what, 3) || what == 1 && noWearer(n) || what == 2 && noThing(n)) return NONE;
        if (what == 3 && off(n, 99)) return BAD;
        if (all.week.size() == 10) return FULL;
        all.week.add(new int[] {what, n});
        return all.week.size();
    }

    int ends(int what) {
        if (off(what, 1)) return NONE;
        All then = all.copy();
        for (int[] goes : all.week) {
            switch (goes[0]) {
                case 0: then.dayGoes(); break;
                case 1: then.wearers.get(goes[1]).gone = true; break;
                case 2: then.things.get(goes[1]).out = true; break;
                default: then.wearers.forEach(w -> w.thought = goes[1]); break;
            }
        }
        int answer = 0;
        for (Thing t : then.things) {
            answer += what == 0 ? (t.out ? 0 : t.low) : (then.within(t.number) ? 1 : 0);
        }
        return answer;
    }

    int book(int thing, int low) {
        if (thing == -1) {
            all.book.clear();
            return 0;
        }
        if (noThing(thing)) return NONE;
        if (off(low, 999)) return BAD;
        if (all.book.size() == 8) return FULL;
        all.book.add(new int[] {thing, low});
        return all.book.size();
    }

    int looked() {
        for (int row = 0; row < all.book.size(); row++) {
            Thing t = all.things.get(all.book.get(row)[0]);
            if (t.out || t.low != all.book.get(row)[1]) return row;
        }
        return -5;
    }

    int judge(int tape, int i) {
        if (off(tape, 5)) return NONE;
        if (tapes[tape] != null && !(tapes[tape] instanceof short[])) return CAST;
        short[] row = (short[]) tapes[tape];
        int looked = 0;
        for (Thing t : all.things) {
            long place = (long) i + t.number;
            if (row == null || i < 0 || place >= row.length) return 100 + looked;
            if (row[(int) place] != t.lies()) return t.number;
            looked++;
        }
        return -5;
    }

    int image() {
        imaged = all.copy();
        return all.wearers.size();
    }

    int undo() {
        if (imaged == null) return STATE;
        all = imaged.copy();
        return all.wearers.size();
    }

    int act(int wearer, int act, int x) {
        ran.clear();
        if (noWearer(wearer)) return 0;
        Wearer w = all.wearers.get(wearer);
        return act == 0 ? w.gropes(x) : act == 1 ? w.thinks(x) : act == 2 ? w.tells(x) : 0;
    }

    int trace(int i) { return i < 0 || i >= ran.size() || i >= 20 ? NONE : ran.get(i); }

    static final int NOTHING = -11, CAST = -12, PLACE = -13, SIZE = -14;

    int taken(int wearer, int k) {
        if (off(k, 6)) return BAD;
        if (noWearer(wearer)) return NOTHING;
        Wearer w = all.wearers.get(wearer);
        return ofKind(k).getClass().isInstance(w) ? w.kind() : CAST;
    }

    int count(int what) {
        switch (what) {
            case 0: return all.wearers.size();
            case 1: return all.things.size();
            case 2: return towns;
            case 3: return all.seen.size();
            case 4: return all.week.size();
            case 5: return all.book.size();
            case 6: return text.length();
            case 7: return ran.size();
            default: return BAD;
        }
    }

    int tape(int tape, int sort, int n) {
        if (off(tape, 5)) return NONE;
        if (sort == -1) {
            tapes[tape] = null;
            return 1;
        }
        if (off(sort, 4) || n > 60) return BAD;
        if (n < 0) return SIZE;
        switch (sort) {
            case 0: tapes[tape] = new byte[n]; break;
            case 1: tapes[tape] = new short[n]; break;
            case 2: tapes[tape] = new int[n]; break;
            case 3: tapes[tape] = new long[n]; break;
            default: tapes[tape] = new boolean[n]; break;
        }
        return 1;
    }

    int item(int tape, int i, long v) {
        if (off(tape, 5)) return NONE;
        Object row = tapes[tape];
        if (row == null) return NOTHING;
        if (i < 0 || i >= java.lang.reflect.Array.getLength(row)) return PLACE;
        if (row instanceof byte[]) ((byte[]) row)[i] = (byte) v;
        if (row instanceof short[]) ((short[]) row)[i] = (short) v;
        if (row instanceof int[]) ((int[]) row)[i] = (int) v;
        if (row instanceof long[]) ((long[]) row)[i] = v;
        if (row instanceof boolean[]) ((boolean[]) row)[i] = v != 0;
        return 1;
    }

    long read(int tape, int i) {
        if (off(tape, 5) || tapes[tape] == null) return NO;
        Object row = tapes[tape];
        if (i < 0 || i >= java.lang.reflect.Array.getLength(row)) return NO;
        Object item = java.lang.reflect.Array.get(row, i);
        return item instanceof Boolean ? ((Boolean) item ? 1 : 0) : ((Number) item).longValue();
    }

    int shift(int tape, int i, int other, int j, int n) {
        if (off(tape, 5) || off(other, 5)) return NONE;
        Object from = tapes[tape];
        Object to = tapes[other];
        if (from == null || to == null) return NOTHING;
        if (from.getClass() != to.getClass()) return CAST;
        try {
            System.arraycopy(from, i, to, j, n);
        } catch (IndexOutOfBoundsException e) {
            return PLACE;
        }
        return n;
    }
}

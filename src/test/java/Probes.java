import java.util.ArrayList;
import java.util.List;

/** Calls that between them show how all is with an object; some change it, so their order is kept. */
final class Probes {
    // By its lowest bits each sort keeps another number of this one.
    private static final long TELLS_SORTS = 0x1_8000_8081L;

    private Probes() {
    }

    /**
     * In groups, each of which shows something else. A call that changes what a later group would show hides
     * that there, if it is a probe itself: so each group is to be asked alone, too.
     */
    static List<List<Call>> groups() {
        List<List<Call>> groups = new ArrayList<>();
        for (int n = 0; n < 8; n++) {
            groups.add(new ArrayList<>());
        }
        counts(groups.get(0));
        wearersAndThings(groups.get(1));
        toldByHand(groups.get(2));
        tapes(groups.get(3));
        for (int i = 0; i <= 12; i++) {
            groups.get(4).add(new Call("trace(" + i + ")"));
        }
        groups.get(5).add(new Call("town()"));
        groups.get(5).add(new Call("told(1)"));
        rows(groups.get(6));
        imaged(groups.get(7));
        return groups;
    }

    private static void counts(List<Call> all) {
        for (int what = 0; what <= 7; what++) {
            all.add(new Call("count(" + what + ")"));
        }
        for (int what = 0; what <= 5; what++) {
            all.add(new Call("told(" + what + ")"));
        }
    }

    private static void wearersAndThings(List<Call> all) {
        for (int w = 0; w <= 4; w++) {
            for (int what : new int[] {0, 1, 2, 3, 4, 5, 10, 11, 12, 13, 14, 15, 20, 21, 22, 23, 24, 25}) {
                all.add(new Call("of(" + w + ", " + what + ")"));
            }
        }
        for (int t = 0; t <= 5; t++) {
            for (int what = 0; what <= 2; what++) {
                all.add(new Call("at(" + t + ", " + what + ")"));
            }
        }
    }

    private static void toldByHand(List<Call> all) {
        all.add(new Call("looked()"));
        all.add(new Call("ends(0)"));
        all.add(new Call("ends(1)"));
        for (int t = 0; t <= 5; t++) {
            all.add(new Call("lay(" + t + ", 0)"));
            all.add(new Call("lay(" + t + ", 1)"));
        }
        all.add(new Call("can(0, 0)"));
        all.add(new Call("can(0, 1)"));
    }

    private static void tapes(List<Call> all) {
        for (int tape = 0; tape <= 5; tape++) {
            for (int i : new int[] {0, 1, 2, 3, 4, 5, 59}) {
                all.add(new Call("read(" + tape + ", " + i + ")"));
            }
            all.add(new Call("item(" + tape + ", 0, " + TELLS_SORTS + ")"));
            all.add(new Call("read(" + tape + ", 0)"));
        }
    }

    private static void rows(List<Call> all) {
        for (int w = 0; w <= 4; w++) {
            for (int part = 0; part < 4; part++) {
                all.add(new Call("row(" + w + ", " + part + ", 1)"));
            }
        }
    }

    private static void imaged(List<Call> all) {
        all.add(new Call("undo()"));
        for (int what = 0; what <= 5; what++) {
            all.add(new Call("count(" + what + ")"));
            all.add(new Call("told(" + what + ")"));
        }
        for (int w = 0; w <= 4; w++) {
            for (int what : new int[] {0, 1, 2, 3, 11}) {
                all.add(new Call("of(" + w + ", " + what + ")"));
            }
        }
        for (int t = 0; t <= 5; t++) {
            all.add(new Call("at(" + t + ", 1)"));
            all.add(new Call("at(" + t + ", 2)"));
            all.add(new Call("lay(" + t + ", 1)"));
        }
        all.add(new Call("ends(0)"));
        all.add(new Call("looked()"));
        rows(all);
    }
}

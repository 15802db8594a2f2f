import java.util.ArrayList;
import java.util.List;

/** Calls that between them show how all is with an object; some change it, so their order is kept. */
final class Probes {
    // By its lowest bits each sort keeps another number of this one.
    private static final long TELLS_SORTS = 0x1_8000_8081L;

    private Probes() {
    }

    static List<Call> all() {
        List<Call> all = new ArrayList<>();
        counts(all);
        wearersAndThings(all);
        toldByHand(all);
        tapes(all);
        for (int i = 0; i <= 12; i++) {
            all.add(new Call("trace(" + i + ")"));
        }
        all.add(new Call("town()"));
        all.add(new Call("told(1)"));
        rows(all);
        // Now what THE IMAGE holds, if one was taken.
        all.add(new Call("undo()"));
        for (int what = 0; what <= 5; what++) {
            all.add(new Call("count(" + what + ")"));
            all.add(new Call("told(" + what + ")"));
        }
        imaged(all);
        rows(all);
        return all;
    }

    private static void counts(List<Call> all) {
        for (int what = 0; what <= 7; what++) {
            all.add(new Call("count(" + what + ")"));
        }
        for (int what = 0; what <= 5; what++) {
            all.add(new Call("told(" + what + ")"));
        }
    }

    private static void wearersAndThings(List<Call> all) {
        for (int w = 0; w <= 4; w++) {
            for (int what : new int[] {0, 1, 2, 3, 4, 5, 10, 11, 12, 13, 14, 15, 20, 21, 22, 23, 24, 25}) {
                all.add(new Call("of(" + w + ", " + what + ")"));
            }
        }
        for (int t = 0; t <= 5; t++) {
            for (int what = 0; what <= 2; what++) {
                all.add(new Call("at(" + t + ", " + what + ")"));
            }
        }
    }

    private static void toldByHand(List<Call> all) {
        all.add(new Call("looked()"));
        all.add(new Call("ends(0)"));
        all.add(new Call("ends(1)"));
        for (int t = 0; t <= 5; t++) {
            all.add(new Call("lay(" + t + ", 0)"));
            all.add(new Call("lay(" + t + ", 1)"));
        }
        all.add(new Call("can(0, 0)"));
        all.add(new Call("can(0, 1)"));
    }

    private static void tapes(List<Call> all) {
        for (int tape = 0; tape <= 5; tape++) {
            for (int i : new int[] {0, 1, 2, 3, 4, 5, 59}) {
                all.add(new Call("read(" + tape + ", " + i + ")"));
            }
            all.add(new Call("item(" + tape + ", 0, " + TELLS_SORTS + ")"));
            all.add(new Call("read(" + tape + ", 0)"));
        }
    }

    private static void rows(List<Call> all) {
        for (int w = 0; w <= 4; w++) {
            for (int part = 0; part < 4; part++) {
                all.add(new Call("row(" + w + ", " + part + ", 1)"));
            }
        }
    }

    private static void imaged(List<Call> all) {
        for (int w = 0; w <= 4; w++) {
            for (int what : new int[] {0, 1, 2, 3, 11}) {
                all.add(new Call("of(" + w + ", " + what + ")"));
            }
        }
        for (int t = 0; t <= 5; t++) {
            all.add(new Call("at(" + t + ", 1)"));
            all.add(new Call("at(" + t + ", 2)"));
            all.add(new Call("lay(" + t + ", 1)"));
        }
        all.add(new Call("ends(0)"));
        all.add(new Call("looked()"));
    }
}

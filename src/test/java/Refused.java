import java.util.ArrayList;
import java.util.List;

/** Calls that are refused: what they throw, and that nothing has changed then, seen from all sides. */
final class Refused {
    private interface View {
        Object of(SegmentDesk x);
    }

    /** One side of the state, seen with no more calls than a new object has left. */
    private interface Side {
        void see(SegmentDesk x, List<Object> seen);
    }

    private static final Side[] SIDES = {
        Refused::seeWords, Refused::seeLooks, Refused::seeFields,
        (x, seen) -> seeOctets(x, seen, 0), (x, seen) -> seeOctets(x, seen, 250),
        (x, seen) -> seeOctets(x, seen, 500), (x, seen) -> seeOctets(x, seen, 750),
        (x, seen) -> seeOctets(x, seen, 1000), (x, seen) -> seeOctets(x, seen, 1250),
        // What comes next shows what no call tells: what lies behind the WORDS and octets that there are.
        (x, seen) -> seeNext(x, seen, y -> y.struct(14, -1, 0, 2, 1)),
        (x, seen) -> seeNext(x, seen, y -> y.list(14, 0, 0, 5, 1, 0, 0)),
        (x, seen) -> seeNext(x, seen, y -> y.root(14, 64)),
        (x, seen) -> seeNext(x, seen, y -> y.take()),
        (x, seen) -> seeNext(x, seen, y -> y.canonical()),
        (x, seen) -> {
            see(seen, x, y -> y.pack());
            seeOctets(x, seen, 0);
        }};

    private Refused() {
    }

    static void bad(Scenes.Scene scene, Scenes.Deed deed) {
        just(IllegalArgumentException.class, scene, deed, 0);
    }

    /** BAD in whatever state. */
    static void badEverywhere(Scenes.Deed deed) {
        for (Scenes.Scene scene : Scenes.ALL) {
            bad(scene, deed);
        }
    }

    static void kind(Scenes.Scene scene, Scenes.Deed deed) {
        just(UnsupportedOperationException.class, scene, deed, 0);
    }

    static void malformed(Scenes.Scene scene, Scenes.Deed deed) {
        malformed(scene, deed, 0);
    }

    /** So much is taken from the ALLOWANCE all the same. */
    static void malformed(Scenes.Scene scene, Scenes.Deed deed, int taken) {
        just(IllegalStateException.class, scene, deed, taken);
    }

    static void noRoom(Scenes.Scene scene, Scenes.Deed deed) {
        noRoom(scene, deed, 0);
    }

    static void noRoom(Scenes.Scene scene, Scenes.Deed deed, int taken) {
        just(IndexOutOfBoundsException.class, scene, deed, taken);
    }

    static void notFinite(Scenes.Scene scene, Scenes.Deed deed) {
        just(ArithmeticException.class, scene, deed, 0);
    }

    private static void just(Class<?> want, Scenes.Scene scene, Scenes.Deed deed, int taken) {
        for (Side side : SIDES) {
            SegmentDesk before = scene.make();
            before.allow(before.count(2) - taken);
            SegmentDesk after = scene.make();
            Check.throwsJust(want, () -> deed.on(after));
            List<Object> due = new ArrayList<>();
            List<Object> found = new ArrayList<>();
            side.see(before, due);
            side.see(after, found);
            Check.seen();
            if (!found.equals(due)) {
                Check.tell("was refused, but then there is " + found + ", due is " + due);
                return;
            }
        }
    }

    private static void see(List<Object> seen, SegmentDesk x, View view) {
        try {
            seen.add(view.of(x));
        } catch (RuntimeException e) {
            seen.add(e.getClass().getSimpleName());
        }
    }

    private static void seeWords(SegmentDesk x, List<Object> seen) {
        for (int what = 0; what <= 8; what++) {
            int w = what;
            see(seen, x, y -> y.count(w));
        }
        for (int s = 0; s < 4; s++) {
            int length = x.count(4 + s);
            for (int k = 0; k < length; k++) {
                int segment = s;
                int place = k;
                see(seen, x, y -> y.at(segment, place));
            }
        }
    }

    private static void seeLooks(SegmentDesk x, List<Object> seen) {
        for (int c = 0; c < 16; c++) {
            for (int what = 0; what < 8; what++) {
                int cursor = c;
                int w = what;
                see(seen, x, y -> y.look(cursor, w));
            }
        }
    }

    /** look() does not tell where in its WORD an element lies. */
    private static void seeFields(SegmentDesk x, List<Object> seen) {
        for (int c = 0; c < 16; c++) {
            int cursor = c;
            see(seen, x, y -> y.number(cursor, 64, 0, 0));
            see(seen, x, y -> y.number(cursor, 8, 0, 0));
            see(seen, x, y -> y.number(cursor, 1, 3, 0));
            see(seen, x, y -> y.item(cursor, 0));
            see(seen, x, y -> y.item(cursor, 1));
        }
    }

    private static void seeOctets(SegmentDesk x, List<Object> seen, int from) {
        int count = x.count(1);
        seen.add(count);
        for (int k = from; k < from + 250 && k < count; k++) {
            int place = k;
            see(seen, x, y -> y.octet(place));
        }
    }

    private static void seeNext(SegmentDesk x, List<Object> seen, View view) {
        see(seen, x, view);
        for (int what = 0; what < 8; what++) {
            int w = what;
            see(seen, x, y -> y.look(14, w));
        }
        seeWords(x, seen);
    }
}

/** Terms: which exception stands for what, and in which order they are looked at. */
final class OrderSentences {
    private static final int MAX = Integer.MAX_VALUE;

    private OrderSentences() {
    }

    static void all() {
        Sentences.in("Terms");
        Sentences.holds("In what follows MALFORMED is an IllegalStateException,", OrderSentences::malformed);
        Sentences.holds("NO ROOM an IndexOutOfBoundsException,", OrderSentences::noRoom);
        Sentences.holds("BAD an IllegalArgumentException (a number is out of range, or said so),",
                OrderSentences::bad);
        Sentences.holds("KIND an UnsupportedOperationException (a CURSOR stands at something else than is wanted).",
                OrderSentences::kind);
        Sentences.holds("They are looked at in the order in which they are named;", OrderSentences::order);
        Sentences.holds("then nothing has changed,", OrderSentences::nothingChanges);
        Sentences.holds("but for what was taken from the ALLOWANCE by FOLLOWING (which is not given back).",
                OrderSentences::notGivenBack);
        Sentences.holds("The constants: NOTHING = 0, STRUCT = 1, LIST = 2: Where a CURSOR stands.",
                OrderSentences::constants);
    }

    private static void malformed() {
        Check.throwsJust(IllegalStateException.class, () -> new SegmentDesk().root(0, 1));
        Check.throwsJust(IllegalStateException.class, () -> Scenes.reading().follow(0, 0, 9));
        Check.throwsJust(IllegalStateException.class, () -> Scenes.reading().element(0, 2, 0));
        Check.throwsJust(IllegalStateException.class, () -> new SegmentDesk().take());
        Check.throwsJust(IllegalStateException.class, () -> new SegmentDesk().canonical());
    }

    private static void noRoom() {
        Check.throwsJust(IndexOutOfBoundsException.class, () -> Scenes.crowded().struct(0, 0, 0, 1, 0));
        Check.throwsJust(IndexOutOfBoundsException.class, () -> Scenes.crowded().list(0, 0, 0, 5, 1, 0, 0));
        Check.throwsJust(IndexOutOfBoundsException.class, () -> Scenes.crowded().feed(1, 1));
        Check.throwsJust(IndexOutOfBoundsException.class, () -> Words.desk(Words.struct(-1, 0, 1)).canonical());
        SegmentDesk x = new SegmentDesk();
        x.segment(3, 64, 64, 64, 0);
        for (int k = 0; k < 192; k++) {
            x.word(k / 64, k % 64, -1);
        }
        Check.throwsJust(IndexOutOfBoundsException.class, () -> x.pack());
    }

    private static void bad() {
        Class<?> bad = IllegalArgumentException.class;
        SegmentDesk x = Scenes.building();
        Check.throwsJust(bad, () -> x.segment(0, 0, 0, 0, 0));
        Check.throwsJust(bad, () -> x.word(0, -1, 0));
        Check.throwsJust(bad, () -> x.at(0, -1));
        Check.throwsJust(bad, () -> x.allow(-1));
        Check.throwsJust(bad, () -> x.root(-1, 0));
        Check.throwsJust(bad, () -> x.follow(-1, 0, 0));
        Check.throwsJust(bad, () -> x.element(-1, 0, 0));
        Check.throwsJust(bad, () -> x.number(-1, 1, 0, 0));
        Check.throwsJust(bad, () -> x.real(-1, true, 0));
        Check.throwsJust(bad, () -> x.item(-1, 0));
        Check.throwsJust(bad, () -> x.look(-1, 0));
        Check.throwsJust(bad, () -> x.begin(0));
        Check.throwsJust(bad, () -> x.struct(-1, 0, 0, 0, 0));
        Check.throwsJust(bad, () -> x.list(-1, 0, 0, 0, 0, 0, 0));
        Check.throwsJust(bad, () -> x.put(-1, 1, 0, 0));
        Check.throwsJust(bad, () -> x.putReal(-1, true, 0, 0));
        Check.throwsJust(bad, () -> x.octet(-1));
        Check.throwsJust(bad, () -> x.feed(0, 0));
        Check.throwsJust(bad, () -> x.count(-1));
    }

    private static void kind() {
        Class<?> kind = UnsupportedOperationException.class;
        SegmentDesk x = Scenes.building();
        Check.throwsJust(kind, () -> x.follow(9, 1, 0));
        Check.throwsJust(kind, () -> x.element(9, 0, 0));
        Check.throwsJust(kind, () -> x.number(1, 1, 0, 0));
        Check.throwsJust(kind, () -> x.real(1, true, 0));
        Check.throwsJust(kind, () -> x.item(0, 0));
        Check.throwsJust(kind, () -> x.struct(9, 1, 0, 0, 0));
        Check.throwsJust(kind, () -> x.list(9, 1, 0, 0, 0, 0, 0));
        Check.throwsJust(kind, () -> x.put(3, 1, 0, 0));
        Check.throwsJust(kind, () -> x.putReal(1, true, 0, 0));
    }

    /** Two things are wrong with each of these calls; the one that is named first is told. */
    private static void order() {
        Refused.bad(Scenes::rootless, x -> x.root(16, 1));
        Refused.bad(Scenes::rootless, x -> x.root(0, 65));
        Refused.bad(Scenes::reading, x -> x.follow(16, 3, 0));
        Refused.bad(Scenes::reading, x -> x.follow(15, 3, -1));
        Refused.bad(Scenes::reading, x -> x.follow(-1, 0, 9));
        Refused.bad(Scenes::reading, x -> x.element(16, 0, 0));
        Refused.kind(Scenes::reading, x -> x.element(15, 0, -1));
        Refused.bad(Scenes::reading, x -> x.element(15, 2, 70));
        Refused.bad(Scenes::reading, x -> x.element(15, 2, -1));
        Refused.bad(Scenes::reading, x -> x.number(3, 3, 0, 0));
        Refused.bad(Scenes::reading, x -> x.number(3, 8, -1, 0));
        Refused.bad(Scenes::reading, x -> x.real(3, true, -1));
        Refused.kind(Scenes::reading, x -> x.real(9, true, 1));
        Refused.kind(Scenes::reading, x -> x.item(0, -1));
        Refused.kind(Scenes::reading, x -> x.item(7, 2));
        Refused.bad(Scenes::crowded, x -> x.feed(1, 9));
        buildingOrder();
    }

    private static void buildingOrder() {
        Refused.bad(Scenes::crowded, x -> x.struct(16, 15, -1, 20, 20));
        Refused.bad(Scenes::crowded, x -> x.struct(0, 15, -1, 21, 20));
        Refused.bad(Scenes::reading, x -> x.struct(0, 3, -1, 1, 1));
        Refused.kind(Scenes::crowded, x -> x.struct(0, 15, -1, 20, 20));
        Refused.bad(Scenes::crowded, x -> x.struct(0, 0, 2, 20, 20));
        Refused.bad(Scenes::crowded, x -> x.list(0, 15, -1, 8, 64, 0, 0));
        Refused.bad(Scenes::crowded, x -> x.list(0, 15, -1, 7, 64, 9, 0));
        Refused.bad(Scenes::reading, x -> x.list(0, 3, -1, 5, 64, 0, 0));
        Refused.kind(Scenes::crowded, x -> x.list(0, 15, -1, 5, 64, 0, 0));
        Refused.bad(Scenes::crowded, x -> x.list(0, 0, 2, 5, 64, 0, 0));
        Refused.bad(Scenes::building, x -> x.put(15, 3, 0, 1));
        Refused.bad(Scenes::building, x -> x.put(15, 8, -1, 1));
        Refused.bad(Scenes::reading, x -> x.put(7, 8, 0, 1));
        Refused.kind(Scenes::building, x -> x.put(1, 8, 5, 1));
        Refused.kind(Scenes::building, x -> x.put(15, 8, MAX, 1));
        Refused.bad(Scenes::building, x -> x.putReal(15, true, -1, Double.NaN));
        Refused.bad(Scenes::reading, x -> x.putReal(7, true, 0, Double.NaN));
        Refused.kind(Scenes::building, x -> x.putReal(1, true, 5, Double.NaN));
        Refused.bad(Scenes::building, x -> x.putReal(0, true, 2, Double.NaN));
    }

    /** One refusal of each kind from each method; Refused looks at the whole state. */
    private static void nothingChanges() {
        Refused.bad(Scenes::building, x -> x.segment(4, 1, 1, 1, 65));
        Refused.bad(Scenes::building, x -> x.begin(65));
        Refused.malformed(Scenes::reading, x -> x.root(0, 0));
        Refused.malformed(Scenes::reading, x -> x.follow(4, 0, 9));
        Refused.kind(Scenes::reading, x -> x.follow(4, 4, 0));
        Refused.malformed(Scenes::reading, x -> x.element(2, 2, 0));
        Refused.kind(Scenes::building, x -> x.struct(1, 1, 0, 1, 0));
        Refused.noRoom(Scenes::crowded, x -> x.struct(1, 1, 0, 1, 0));
        Refused.noRoom(Scenes::crowded, x -> x.list(1, 1, 0, 6, 3, 0, 0));
        Refused.bad(Scenes::building, x -> x.put(0, 64, 2, -1));
        Refused.notFinite(Scenes::building, x -> x.putReal(0, false, 1, 1e39));
        Refused.noRoom(Scenes::crowded, x -> x.feed(-1, 8));
        Refused.malformed(Scenes::crowded, x -> x.take());
    }

    private static void notGivenBack() {
        // Of one FOLLOWING that is MALFORMED nothing is taken.
        Refused.malformed(() -> {
            SegmentDesk x = Scenes.reading();
            x.allow(10);
            return x;
        }, x -> x.root(0, 5));
        // canonical() FOLLOWS the root for 3 and the first POINTER for 1; the second is a HANDLE.
        SegmentDesk x = Words.desk(Words.struct(0, 1, 2), 5, Words.struct(1, 1, 0), 3, 6);
        Check.malformed(() -> x.canonical());
        Check.is(996, () -> x.count(2));
        Check.malformed(() -> x.canonical());
        Check.is(992, () -> x.count(2));
        SegmentDesk full = Words.desk(Words.struct(-1, 0, 1));
        Check.noRoom(() -> full.canonical());
        Check.is(936, () -> full.count(2));
    }

    private static void constants() {
        Check.is(0, () -> SegmentDesk.NOTHING);
        Check.is(1, () -> SegmentDesk.STRUCT);
        Check.is(2, () -> SegmentDesk.LIST);
        SegmentDesk x = Scenes.reading();
        Check.is(SegmentDesk.NOTHING, () -> x.look(15, 0));
        Check.is(SegmentDesk.STRUCT, () -> x.look(0, 0));
        Check.is(SegmentDesk.LIST, () -> x.look(1, 0));
    }
}

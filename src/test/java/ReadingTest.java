/** Promises 6, 7, 8 and 12: root, follow, element, look; FOLLOWING with its edges. */
public final class ReadingTest {
    public static void main(String[] args) {
        rootNumbers();
        nearStruct();
        structEdges();
        listEdges();
        structLists();
        farPointers();
        doubleFarPointers();
        handles();
        depths();
        charges();
        following();
        wrongFollowing();
        elements();
        wrongElements();
        looks();
        Check.end();
    }

    private static void place(SegmentDesk x, int c, int segment, int place) {
        Check.is(segment, () -> x.look(c, 2));
        Check.is(place, () -> x.look(c, 3));
    }

    private static void rootLeads(int want, long... words) {
        SegmentDesk x = Words.desk(words);
        Check.is(want, () -> x.root(0, 1));
        Check.is(want, () -> x.look(0, 0));
    }

    private static void rootIsMalformed(long... words) {
        SegmentDesk x = Words.desk(words);
        Check.malformed(() -> x.root(0, 64));
        Check.is(1000, () -> x.count(2));
        Check.is(0, () -> x.look(0, 0));
    }

    private static void rootNumbers() {
        SegmentDesk x = Words.desk(Words.struct(0, 1, 0), 5);
        Check.bad(() -> x.root(-1, 1));
        Check.bad(() -> x.root(16, 1));
        Check.bad(() -> x.root(0, -1));
        Check.bad(() -> x.root(0, 65));
        Check.is(1, () -> x.root(15, 64));
        Check.is(63, () -> x.look(15, 1));
        Check.is(1, () -> x.root(0, 1));
        Check.is(0, () -> x.look(0, 1));
        SegmentDesk empty = Words.desk();
        Check.bad(() -> empty.root(16, 1));
        Check.malformed(() -> empty.root(3, 1));
        SegmentDesk second = new SegmentDesk();
        second.segment(2, 0, 4, 0, 0);
        Check.malformed(() -> second.root(3, 1));
    }

    private static void nearStruct() {
        SegmentDesk x = Words.desk(Words.struct(1, 1, 2), 99, 7, Words.struct(-3, 1, 0), 0);
        Check.is(1, () -> x.root(2, 10));
        int[] due = {1, 9, 0, 2, 64, 2, 0, 0};
        for (int what = 0; what < 8; what++) {
            int w = what;
            Check.is(due[w], () -> x.look(2, w));
        }
        Check.is(1, () -> x.follow(3, 2, 0));
        place(x, 3, 0, 1);
        Check.is(99, () -> x.number(3, 64, 0, 0));
        Check.is(0, () -> x.follow(3, 2, 1));
        Check.is(1000 - 4, () -> x.count(2));
    }

    private static void structEdges() {
        rootLeads(0, 0);
        rootLeads(1, Words.struct(0, 0, 1), 0);
        rootIsMalformed(Words.struct(0, 1, 1), 0);
        rootIsMalformed(Words.struct(1, 1, 0), 0);
        rootLeads(1, Words.struct(-1, 1, 0));
        rootIsMalformed(Words.struct(-2, 1, 0));
        rootIsMalformed(Words.struct(-2, 0, 0));
        rootIsMalformed(Words.struct(-2, 2, 0), 0, 0);
        rootLeads(1, Words.struct(-1, 0, 0));
        rootIsMalformed(Words.struct(1, 0, 0));
        rootIsMalformed(Words.struct(0x1FFFFFFF, 0, 0));
        rootIsMalformed(Words.struct(-0x20000000, 65535, 65535));
        rootIsMalformed(Words.struct(0, 65535, 65535));
        SegmentDesk x = Words.desk(Words.struct(1, 0, 0), 0);
        Check.is(1, () -> x.root(0, 1));
        place(x, 0, 0, 2);
    }

    private static void listEdges() {
        rootLeads(2, Words.list(0, 0, 1000));
        rootIsMalformed(Words.list(0, 0, 1001));
        rootIsMalformed(Words.list(1, 0, 5));
        rootIsMalformed(Words.list(-2, 0, 5));
        rootLeads(2, Words.list(-1, 0, 5));
        for (int code = 1; code <= 6; code++) {
            int bits = code == 1 ? 1 : 4 << Math.min(code - 1, 4);
            int two = 128 / bits;
            rootLeads(2, Words.list(0, code, two), 0, 0);
            rootIsMalformed(Words.list(0, code, two + 1), 0, 0);
            rootIsMalformed(Words.list(0, code, 1));
            rootLeads(2, Words.list(0, code, 0));
            rootIsMalformed(Words.list(1, code, 0));
            rootIsMalformed(Words.list(-2, code, 0));
            rootIsMalformed(Words.list(0, code, 0x1FFFFFFF));
            SegmentDesk x = Words.desk(Words.list(0, code, two / 2 + 1), 0, 0);
            x.root(0, 1);
            Check.is(998, () -> x.count(2));
        }
    }

    private static void structLists() {
        SegmentDesk x = Words.desk(Words.list(0, 7, 4), Words.struct(2, 1, 1), 5, 0, 6, 0);
        Check.is(2, () -> x.root(0, 3));
        int[] due = {2, 2, 0, 1, 0, 0, 2, 7};
        for (int what = 0; what < 8; what++) {
            int w = what;
            Check.is(due[w], () -> x.look(0, w));
        }
        Check.is(995, () -> x.count(2));
        rootLeads(2, Words.list(0, 7, 0), 0);
        rootIsMalformed(Words.list(0, 7, 0));
        rootIsMalformed(Words.list(-2, 7, 0), 0);
        rootIsMalformed(Words.list(0, 7, 2), Words.struct(1, 1, 0), 0);
        rootLeads(2, Words.list(0, 7, 1), Words.struct(0, 9, 9), 0);
        rootIsMalformed(Words.list(0, 7, 1), Words.struct(1, 1, 1), 0);
        rootIsMalformed(Words.list(0, 7, 1), Words.struct(-1, 0, 0), 0);
        rootIsMalformed(Words.list(0, 7, 1), Words.struct(-1, 1, 0), 0);
        rootIsMalformed(Words.list(0, 7, 1), Words.list(1, 1, 0), 0);
        rootIsMalformed(Words.list(0, 7, 1), Words.far(0, 0), 0);
        rootIsMalformed(Words.list(0, 7, 1), 3, 0);
        rootIsMalformed(Words.list(0, 7, 1), Words.struct(0x1FFFFFFF, 65535, 65535), 0);
        rootIsMalformed(Words.list(0, 7, 0x1FFFFFFF), Words.struct(1, 1, 0), 0);
    }

    private static SegmentDesk twoSegments(long root, long... second) {
        SegmentDesk x = new SegmentDesk();
        x.segment(2, 1, second.length, 0, 0);
        x.word(0, 0, root);
        Words.set(x, 1, second);
        return x;
    }

    private static void farIsMalformed(long root, long... second) {
        SegmentDesk x = twoSegments(root, second);
        Check.malformed(() -> x.root(0, 64));
        Check.is(1000, () -> x.count(2));
    }

    private static void farPointers() {
        SegmentDesk x = twoSegments(Words.far(1, 1), 0, Words.struct(1, 1, 0), 0, 77);
        Check.is(1, () -> x.root(0, 1));
        place(x, 0, 1, 3);
        Check.is(77, () -> x.number(0, 64, 0, 0));
        Check.is(999, () -> x.count(2));
        SegmentDesk list = twoSegments(Words.far(1, 1), 258, Words.list(-2, 2, 2));
        Check.is(2, () -> list.root(0, 1));
        Check.is(2, () -> list.item(0, 0));
        Check.is(1, () -> list.item(0, 1));
        SegmentDesk none = twoSegments(Words.far(1, 0), Words.struct(-1, 0, 0));
        Check.is(1, () -> none.root(0, 1));
        place(none, 0, 1, 0);
        farIsMalformed(Words.far(2, 0), Words.struct(0, 0, 0));
        farIsMalformed(Words.far(0xFFFFFFFFL, 0), Words.struct(0, 1, 0), 0);
        farIsMalformed(Words.far(0x80000001L, 0), Words.struct(0, 1, 0), 0);
        farIsMalformed(Words.far(1, 2), Words.struct(0, 1, 0), 0);
        farIsMalformed(Words.far(1, 0x1FFFFFFF), Words.struct(0, 1, 0), 0);
        farIsMalformed(Words.far(1, 0x10000000), Words.struct(0, 1, 0), 0);
        farIsMalformed(Words.far(1, 0), 0, 0);
        farIsMalformed(Words.far(1, 0), 3, 0);
        farIsMalformed(Words.far(1, 0), Words.far(1, 1), Words.struct(-1, 1, 0));
        farIsMalformed(Words.far(1, 0), Words.doubleFar(1, 1), Words.far(1, 0), 0);
        farIsMalformed(Words.far(1, 0), Words.struct(0, 2, 0), 0);
        farIsMalformed(Words.far(0, 0), 0);
    }

    private static void doubleFarPointers() {
        SegmentDesk x = twoSegments(Words.doubleFar(1, 1), 55, Words.far(1, 0), Words.struct(0, 1, 0));
        Check.is(1, () -> x.root(0, 1));
        place(x, 0, 1, 0);
        Check.is(55, () -> x.number(0, 64, 0, 0));
        SegmentDesk first = twoSegments(Words.doubleFar(1, 0), Words.far(0, 0), Words.list(0, 5, 1));
        Check.is(2, () -> first.root(0, 1));
        place(first, 0, 0, 0);
        Check.is(Words.doubleFar(1, 0), () -> first.item(0, 0));
        SegmentDesk none = twoSegments(Words.doubleFar(1, 0), Words.far(1, 2), 0);
        Check.is(1, () -> none.root(0, 1));
        place(none, 0, 1, 2);
        Check.is(1000, () -> none.count(2));
        farIsMalformed(Words.doubleFar(1, 0), Words.far(1, 3), 0);
        farIsMalformed(Words.doubleFar(1, 0), Words.far(1, 0x1FFFFFFF), Words.struct(0, 1, 0));
        farIsMalformed(Words.doubleFar(1, 0), Words.far(2, 0), 0);
        farIsMalformed(Words.doubleFar(1, 0), Words.far(0xFFFFFFFFL, 0), 0);
        farIsMalformed(Words.doubleFar(1, 1), 0, Words.far(0, 0));
        farIsMalformed(Words.doubleFar(1, 2), 0, Words.far(0, 0));
        farIsMalformed(Words.doubleFar(1, 0), Words.doubleFar(1, 0), 0);
        farIsMalformed(Words.doubleFar(1, 0), 0, 0);
        farIsMalformed(Words.doubleFar(1, 0), Words.struct(0, 1, 0), Words.struct(0, 1, 0));
        farIsMalformed(Words.doubleFar(1, 0), 3, 0);
        farIsMalformed(Words.doubleFar(1, 0), Words.far(1, 0), Words.struct(1, 1, 0));
        farIsMalformed(Words.doubleFar(1, 0), Words.far(1, 0), Words.list(-1, 5, 1));
        farIsMalformed(Words.doubleFar(1, 0), Words.far(1, 0), Words.far(0, 0));
        farIsMalformed(Words.doubleFar(1, 0), Words.far(1, 0), 3);
        farIsMalformed(Words.doubleFar(1, 0), Words.far(1, 1), Words.struct(0, 2, 0));
    }

    private static void handles() {
        rootIsMalformed(3);
        rootIsMalformed(7);
        rootIsMalformed(-1);
    }

    private static void depths() {
        SegmentDesk x = Words.desk(Words.struct(0, 0, 2), Words.struct(-1, 0, 2), 0);
        Check.malformed(() -> x.root(0, 0));
        Check.is(1, () -> x.root(0, 3));
        Check.is(2, () -> x.look(0, 1));
        Check.is(1, () -> x.follow(0, 0, 0));
        Check.is(1, () -> x.follow(0, 0, 0));
        Check.is(0, () -> x.look(0, 1));
        Check.is(994, () -> x.count(2));
        Check.malformed(() -> x.follow(0, 0, 0));
        Check.is(994, () -> x.count(2));
        place(x, 0, 0, 1);
        Check.is(0, () -> x.follow(1, 0, 1));
        Check.is(0, () -> x.follow(0, 0, 2));
        Check.is(0, () -> x.look(0, 0));
        SegmentDesk nothing = Words.desk(0);
        Check.is(0, () -> nothing.root(0, 0));
        Check.is(0, () -> nothing.root(0, 9));
        Check.is(0, () -> nothing.look(0, 1));
    }

    private static void charged(int charge, long... words) {
        SegmentDesk x = Words.desk(words);
        if (charge > 0) {
            x.allow(charge - 1);
            Check.malformed(() -> x.root(0, 5));
            Check.is(charge - 1, () -> x.count(2));
            Check.is(0, () -> x.look(0, 0));
        }
        x.allow(charge);
        Check.fine(() -> x.root(0, 5));
        Check.is(0, () -> x.count(2));
    }

    private static void charges() {
        charged(0, 0);
        charged(0, Words.struct(-1, 0, 0));
        charged(3, Words.struct(0, 1, 2), 0, 0, 0);
        charged(70, Words.list(0, 0, 70));
        charged(1, Words.list(0, 1, 64), 0);
        charged(2, Words.list(0, 1, 65), 0, 0);
        charged(0, Words.list(0, 3, 0));
        charged(2, Words.list(0, 6, 2), 0, 0);
        charged(1, Words.list(0, 7, 0), 0);
        charged(4, Words.list(0, 7, 3), Words.struct(1, 1, 0), 0, 0, 0);
        charged(4, Words.list(0, 7, 3), Words.struct(0, 0, 0), 0, 0, 0);
        charged(10, Words.list(0, 7, 1), Words.struct(8, 0, 0), 0);
        charged(9, Words.list(0, 7, 0), Words.struct(8, 0, 0), 0);
        SegmentDesk x = Words.desk(Words.list(0, 7, 0), Words.struct(0x1FFFFFFF, 0, 0));
        x.allow(100000);
        Check.malformed(() -> x.root(0, 5));
        Check.is(100000, () -> x.count(2));
    }

    private static void following() {
        SegmentDesk x = Words.desk(Words.struct(0, 1, 2), 9, Words.list(1, 6, 2), 0,
                Words.struct(1, 1, 0), 0, 44);
        x.root(0, 5);
        Check.is(2, () -> x.follow(1, 0, 0));
        Check.is(3, () -> x.look(1, 1));
        Check.is(0, () -> x.follow(2, 0, 1));
        Check.is(0, () -> x.follow(2, 0, 2));
        Check.is(0, () -> x.follow(2, 0, Integer.MAX_VALUE));
        Check.is(1, () -> x.follow(2, 1, 0));
        Check.is(2, () -> x.look(2, 1));
        Check.is(44, () -> x.number(2, 64, 0, 0));
        Check.is(0, () -> x.follow(2, 1, 1));
        Check.is(0, () -> x.look(2, 0));
        Check.is(0, () -> x.follow(3, 2, 0));
        Check.is(0, () -> x.follow(3, 2, 12345));
        Check.is(2, () -> x.follow(0, 0, 0));
        Check.is(2, () -> x.look(0, 0));
    }

    private static void wrongFollowing() {
        SegmentDesk x = Words.desk(Words.struct(0, 0, 3), Words.list(2, 6, 1), Words.list(1, 5, 1), 3, 0);
        x.root(0, 5);
        Check.is(2, () -> x.follow(1, 0, 0));
        Check.is(2, () -> x.follow(2, 0, 1));
        Check.bad(() -> x.follow(-1, 0, 0));
        Check.bad(() -> x.follow(16, 0, 0));
        Check.bad(() -> x.follow(3, -1, 0));
        Check.bad(() -> x.follow(3, 16, 0));
        Check.bad(() -> x.follow(3, 0, -1));
        Check.bad(() -> x.follow(3, 1, 1));
        Check.bad(() -> x.follow(3, 1, -1));
        Check.bad(() -> x.follow(3, 9, -1));
        Check.bad(() -> x.follow(3, 2, -1));
        Check.kind(() -> x.follow(3, 2, 0));
        Check.kind(() -> x.follow(3, 2, 77));
        Check.malformed(() -> x.follow(2, 0, 2));
        Check.is(2, () -> x.look(2, 0));
        place(x, 2, 0, 4);
        for (int code = 0; code < 8; code++) {
            SegmentDesk list = Words.desk(Words.list(0, code, 1), 0, 0);
            list.root(0, 5);
            if (code == 6) {
                Check.is(0, () -> list.follow(0, 0, 0));
            } else {
                Check.kind(() -> list.follow(0, 0, 0));
            }
        }
    }

    private static void elementIs(SegmentDesk x, int n, int place, int dataBits, int pointers) {
        Check.is(1, () -> x.element(1, 0, n));
        int[] due = {1, 8, 0, place, dataBits, pointers, 0, 0};
        for (int what = 0; what < 8; what++) {
            int w = what;
            Check.is(due[w], () -> x.look(1, w));
        }
    }

    private static void elements() {
        long low = 0x0807060504030201L;
        long high = 0x0000000000008A09L;
        for (int code = 2; code <= 5; code++) {
            int bits = 4 << code - 1;
            int count = code == 5 ? 2 : 64 / bits + 1;
            SegmentDesk x = Words.desk(Words.list(1, code, count), 0, low, high);
            x.root(0, 9);
            elementIs(x, 0, 2, bits, 0);
            Check.is(low << 64 - bits >> 64 - bits, () -> x.number(1, bits, 0, 0));
            Check.is(1, () -> x.number(1, 8, 0, 0));
            elementIs(x, count - 1, 3, bits, 0);
            Check.is(9, () -> x.number(1, 8, 0, 0));
            Check.is(0, () -> x.number(1, bits, 1, 0));
            Check.is(0, () -> x.follow(2, 1, 0));
            Check.is(998, () -> x.count(2));
        }
        SegmentDesk x = Words.desk(Words.list(0, 2, 16), low, high);
        x.root(0, 9);
        elementIs(x, 7, 1, 8, 0);
        Check.is(8, () -> x.number(1, 8, 0, 0));
        Check.is(0, () -> x.number(1, 16, 0, 0));
        Check.is(1, () -> x.number(1, 1, 3, 0));
        Check.is(0, () -> x.number(1, 1, 8, 0));
        elementIs(x, 9, 2, 8, 0);
        Check.is(-118, () -> x.number(1, 8, 0, 0));
        otherElements();
    }

    private static void otherElements() {
        SegmentDesk none = Words.desk(0, 0);
        none.word(0, 0, Words.list(1, 0, 900));
        none.root(0, 9);
        elementIs(none, 0, 2, 0, 0);
        elementIs(none, 899, 2, 0, 0);
        SegmentDesk pointers = Words.desk(Words.list(0, 6, 2), 0, Words.struct(-3, 1, 0));
        pointers.root(0, 9);
        elementIs(pointers, 1, 2, 0, 1);
        Check.is(1, () -> pointers.follow(2, 1, 0));
        Check.is(7, () -> pointers.look(2, 1));
        place(pointers, 2, 0, 0);
        elementIs(pointers, 0, 1, 0, 1);
        Check.is(0, () -> pointers.follow(2, 1, 0));
        SegmentDesk structs = Words.desk(Words.list(0, 7, 6), Words.struct(2, 2, 1), 1, 2, 0, 4, 5,
                Words.list(-1, 5, 1));
        structs.root(0, 9);
        elementIs(structs, 0, 2, 128, 1);
        elementIs(structs, 1, 5, 128, 1);
        Check.is(5, () -> structs.number(1, 64, 1, 0));
        Check.is(0, () -> structs.number(1, 64, 2, 0));
        Check.is(2, () -> structs.follow(2, 1, 0));
        place(structs, 2, 0, 7);
        SegmentDesk empty = Words.desk(Words.list(0, 7, 0), Words.struct(500, 0, 0));
        empty.root(0, 9);
        elementIs(empty, 0, 2, 0, 0);
        elementIs(empty, 499, 2, 0, 0);
        Check.is(1, () -> structs.element(0, 0, 1));
        place(structs, 0, 0, 5);
    }

    private static void wrongElements() {
        SegmentDesk x = Words.desk(Words.list(0, 4, 2), 5);
        Check.kind(() -> x.element(1, 0, 0));
        Check.kind(() -> x.element(1, 0, -1));
        x.root(0, 9);
        Check.bad(() -> x.element(-1, 0, 0));
        Check.bad(() -> x.element(16, 0, 0));
        Check.bad(() -> x.element(1, -1, 0));
        Check.bad(() -> x.element(1, 16, 0));
        Check.bad(() -> x.element(1, 0, -1));
        Check.bad(() -> x.element(1, 0, 2));
        Check.is(1, () -> x.element(0, 0, 1));
        Check.kind(() -> x.element(1, 0, 0));
        Check.kind(() -> x.element(1, 0, 99));
        SegmentDesk bits = Words.desk(Words.list(0, 1, 3), 5);
        bits.root(0, 9);
        Check.malformed(() -> bits.element(1, 0, 2));
        Check.bad(() -> bits.element(1, 0, 3));
        Check.bad(() -> bits.element(1, 0, -1));
        Check.is(0, () -> bits.look(1, 0));
    }

    private static void looks() {
        SegmentDesk x = Words.desk(Words.list(0, 4, 3), 5, 6);
        Check.bad(() -> x.look(-1, 0));
        Check.bad(() -> x.look(16, 0));
        Check.bad(() -> x.look(0, -1));
        Check.bad(() -> x.look(0, 8));
        x.root(0, 7);
        int[] due = {2, 6, 0, 1, 0, 0, 3, 4};
        for (int what = 0; what < 8; what++) {
            int w = what;
            Check.is(due[w], () -> x.look(0, w));
        }
    }
}

/** Promises 13 to 17: begin, struct, list, put, putReal; ALLOCATING with its edges. */
public final class BuildingTest {
    public static void main(String[] args) {
        begins();
        ownEnds();
        nearStructs();
        overwritten();
        emptyStructs();
        lists();
        structLists();
        farPads();
        firstWithRoom();
        doubleFars();
        doubleFarsOfLists();
        noDoubleFarWithoutPad();
        newSegments();
        noRoom();
        wrongStructs();
        wrongLists();
        puts();
        putsIntoElements();
        wrongPuts();
        putReals();
        wrongPutReals();
        Check.end();
    }

    private static SegmentDesk begun(int size) {
        SegmentDesk x = new SegmentDesk();
        x.begin(size);
        return x;
    }

    private static void cursorIs(SegmentDesk x, int c, int... due) {
        for (int what = 0; what < 8; what++) {
            int w = what;
            Check.is(due[w], () -> x.look(c, w));
        }
    }

    private static void begins() {
        SegmentDesk x = Words.desk(Words.struct(0, 1, 0), 7);
        x.root(5, 5);
        Check.bad(() -> x.begin(0));
        Check.bad(() -> x.begin(-1));
        Check.bad(() -> x.begin(65));
        Check.is(1, () -> x.look(5, 0));
        Check.is(0, () -> x.count(3));
        Check.fine(() -> x.begin(64));
        cursorIs(x, 5, 0, 0, 0, 0, 0, 0, 0, 0);
        Words.are(x, 0, 0);
        Check.is(1, () -> x.count(0));
        Check.is(1, () -> x.count(3));
        Check.is(64, () -> x.count(8));
        x.struct(0, -1, 0, 3, 0);
        x.put(0, 64, 2, -1);
        Check.fine(() -> x.begin(1));
        Words.are(x, 0, 0);
        Check.is(1, () -> x.count(8));
        x.begin(4);
        x.struct(0, -1, 0, 3, 0);
        Words.are(x, 0, Words.struct(0, 3, 0), 0, 0, 0);
    }

    private static void ownEnds() {
        SegmentDesk x = begun(8);
        x.pack();
        x.root(0, 5);
        x.drop();
        x.allow(5);
        Check.is(1, () -> x.count(3));
        x.pack();
        x.take();
        Check.is(0, () -> x.count(3));
        Check.bad(() -> x.struct(0, -1, 0, 0, 0));
        x.begin(8);
        x.word(0, 0, 0);
        Check.is(0, () -> x.count(8));
        Check.bad(() -> x.list(0, -1, 0, 0, 0, 0, 0));
        x.begin(8);
        x.segment(1, 1, 0, 0, 0);
        Check.is(0, () -> x.count(3));
        x.begin(8);
        x.canonical();
        Check.is(0, () -> x.count(3));
        Check.is(0, () -> x.count(8));
    }

    private static void nearStructs() {
        SegmentDesk x = begun(8);
        Check.is(1, () -> x.struct(7, -1, -99, 1, 2));
        cursorIs(x, 7, 1, 64, 0, 1, 64, 2, 0, 0);
        Check.is(1, () -> x.struct(8, 7, 1, 2, 0));
        cursorIs(x, 8, 1, 64, 0, 4, 128, 0, 0, 0);
        Check.is(1, () -> x.struct(7, 7, 0, 0, 2));
        cursorIs(x, 7, 1, 64, 0, 6, 0, 2, 0, 0);
        Words.are(x, 0, Words.struct(0, 1, 2), 0, Words.struct(3, 0, 2), Words.struct(0, 2, 0), 0, 0, 0, 0);
        Check.is(1, () -> x.count(3));
        Check.is(1000, () -> x.count(2));
    }

    private static void overwritten() {
        SegmentDesk x = begun(8);
        x.struct(0, -1, 0, 1, 0);
        x.put(0, 64, 0, 5);
        Check.is(1, () -> x.struct(1, -1, 0, 1, 0));
        Words.are(x, 0, Words.struct(1, 1, 0), 5, 0);
        Check.is(5, () -> x.number(0, 64, 0, 0));
        Check.is(1, () -> x.struct(1, -1, 0, 0, 0));
        Words.are(x, 0, Words.struct(-1, 0, 0), 5, 0);
    }

    private static void emptyStructs() {
        SegmentDesk x = begun(2);
        Check.is(1, () -> x.struct(0, -1, 0, 0, 1));
        Check.is(1, () -> x.struct(1, 0, 0, 0, 0));
        cursorIs(x, 1, 1, 64, 0, 1, 0, 0, 0, 0);
        Words.are(x, 0, Words.struct(0, 0, 1), Words.struct(-1, 0, 0));
        x.root(2, 9);
        Check.is(1, () -> x.follow(3, 2, 0));
        Check.is(1, () -> x.look(3, 3));
    }

    private static void lists() {
        int[] words = {0, 1, 2, 3, 5, 9, 9};
        int[] bits = {0, 1, 8, 16, 32, 64, 64};
        for (int code = 0; code < 7; code++) {
            int c = code;
            SegmentDesk x = begun(20);
            Check.is(2, () -> x.list(3, -1, 5, c, 9, -7, 99));
            cursorIs(x, 3, 2, 64, 0, 1, 0, 0, 9, code);
            Check.is(1 + (9 * bits[c] + 63) / 64, () -> x.count(4));
            Check.is(Words.list(0, code, 9), () -> x.at(0, 0));
            Check.is(2, () -> x.list(4, -1, 5, c, 0, 0, 0));
            Check.is(words[c] == 0 ? 1 : 1 + (9 * bits[c] + 63) / 64, () -> x.look(4, 3));
            Check.is(Words.list(x.count(4) - 1, code, 0), () -> x.at(0, 0));
        }
        SegmentDesk x = begun(64);
        x.list(0, -1, 0, 1, 64, 0, 0);
        Check.is(2, () -> x.count(4));
        x.list(0, -1, 0, 6, 2, 0, 0);
        Check.is(2, () -> x.list(1, 0, 1, 2, 9, 0, 0));
        Check.is(1, () -> x.struct(2, 0, 0, 1, 0));
        Words.are(x, 0, Words.list(1, 6, 2), 0, Words.struct(3, 1, 0), Words.list(0, 2, 9), 0, 0, 0);
    }

    private static void structLists() {
        SegmentDesk x = begun(64);
        Check.is(2, () -> x.list(3, -1, 0, 7, 3, 2, 1));
        cursorIs(x, 3, 2, 64, 0, 1, 0, 0, 3, 7);
        Words.are(x, 0, Words.list(0, 7, 9), Words.struct(3, 2, 1), 0, 0, 0, 0, 0, 0, 0, 0, 0);
        Check.is(1, () -> x.element(4, 3, 2));
        Check.is(1, () -> x.struct(5, 4, 0, 1, 0));
        Check.is(Words.struct(0, 1, 0), () -> x.at(0, 10));
        Check.is(2, () -> x.list(3, -1, 0, 7, 64, 0, 0));
        Check.is(Words.struct(64, 0, 0), () -> x.at(0, 12));
        Check.is(Words.list(11, 7, 0), () -> x.at(0, 0));
        Check.is(13, () -> x.count(4));
        Check.is(2, () -> x.list(3, -1, 0, 7, 0, 8, 8));
        Check.is(Words.struct(0, 8, 8), () -> x.at(0, 13));
        Check.is(14, () -> x.count(4));
        Check.is(2, () -> x.root(0, 3));
        Check.is(999, () -> x.count(2));
    }

    private static void farPads() {
        SegmentDesk x = begun(3);
        x.struct(0, -1, 0, 1, 1);
        Check.is(1, () -> x.struct(1, 0, 0, 1, 1));
        cursorIs(x, 1, 1, 64, 1, 1, 64, 1, 0, 0);
        Words.are(x, 0, Words.struct(0, 1, 1), 0, Words.far(1, 0));
        Words.are(x, 1, Words.struct(0, 1, 1), 0, 0);
        Check.is(2, () -> x.list(2, 1, 0, 7, 1, 1, 0));
        Words.are(x, 2, Words.list(0, 7, 1), Words.struct(1, 1, 0), 0);
        Check.is(Words.far(2, 0), () -> x.at(1, 2));
        Check.is(1, () -> x.struct(3, -1, 0, 2, 0));
        Words.are(x, 3, Words.struct(0, 2, 0), 0, 0);
        Check.is(Words.far(3, 0), () -> x.at(0, 0));
        Check.noRoom(() -> x.struct(3, -1, 0, 1, 0));
        Check.is(2, () -> x.list(3, 1, 0, 5, 0, 0, 0));
        cursorIs(x, 3, 2, 64, 1, 3, 0, 0, 0, 5);
        Check.is(1, () -> x.root(4, 4));
        Check.is(3, () -> x.look(4, 2));
    }

    private static void firstWithRoom() {
        SegmentDesk x = begun(8);
        x.struct(0, -1, 0, 0, 4);
        x.struct(1, 0, 0, 4, 0);
        x.struct(2, 0, 1, 3, 0);
        Check.is(8, () -> x.count(4));
        Check.is(5, () -> x.count(5));
        x.struct(3, 0, 2, 7, 0);
        Check.is(8, () -> x.count(6));
        Check.is(1, () -> x.struct(4, 0, 3, 2, 0));
        Check.is(1, () -> x.look(4, 2));
        Check.is(6, () -> x.look(4, 3));
        Check.is(Words.far(1, 5), () -> x.at(0, 4));
        Check.is(3, () -> x.count(0));
    }

    /** SEGMENT 0 with 8 WORDS used of 10, SEGMENT 1 with 7 of 10. */
    private static SegmentDesk nearlyFull() {
        SegmentDesk x = begun(10);
        x.struct(0, -1, 0, 1, 6);
        x.struct(1, 0, 0, 6, 0);
        return x;
    }

    private static void doubleFars() {
        SegmentDesk x = nearlyFull();
        Check.is(8, () -> x.count(4));
        Check.is(7, () -> x.count(5));
        Check.is(1, () -> x.struct(2, 0, 1, 2, 1));
        cursorIs(x, 2, 1, 64, 1, 7, 128, 1, 0, 0);
        Check.is(2, () -> x.count(0));
        Check.is(10, () -> x.count(4));
        Check.is(10, () -> x.count(5));
        Check.is(Words.doubleFar(0, 8), () -> x.at(0, 3));
        Check.is(Words.far(1, 7), () -> x.at(0, 8));
        Check.is(Words.struct(0, 2, 1), () -> x.at(0, 9));
        x.put(2, 64, 1, 77);
        x.root(3, 9);
        Check.is(1, () -> x.follow(4, 3, 1));
        Check.is(77, () -> x.number(4, 64, 1, 0));
        Check.is(1, () -> x.look(4, 2));
        Check.is(7, () -> x.look(4, 3));
        doubleFarOfTwo();
    }

    /** Two SEGMENTS with just two left each: the first takes the WORDS, the other one the pad. */
    private static void doubleFarOfTwo() {
        SegmentDesk x = begun(6);
        x.struct(0, -1, 0, 0, 3);
        x.struct(1, 0, 0, 4, 0);
        Check.is(4, () -> x.count(4));
        Check.is(5, () -> x.count(5));
        x.struct(1, 0, 1, 0, 3);
        x.list(2, 0, 2, 5, 1, 0, 0);
        Check.is(5, () -> x.count(4));
        Check.is(4, () -> x.count(6));
        SegmentDesk y = begun(6);
        y.struct(0, -1, 0, 0, 5);
        y.struct(1, 0, 0, 0, 3);
        y.struct(2, 0, 1, 3, 0);
        Check.is(6, () -> y.count(4));
        Check.is(4, () -> y.count(5));
        Check.is(4, () -> y.count(6));
        Check.is(1, () -> y.struct(3, 0, 2, 1, 1));
        Check.is(Words.doubleFar(2, 4), () -> y.at(0, 3));
        Words.are(y, 1, Words.struct(0, 0, 3), 0, 0, 0, 0, 0);
        Words.are(y, 2, Words.struct(0, 3, 0), 0, 0, 0, Words.far(1, 4), Words.struct(0, 1, 1));
        Check.is(1, () -> y.look(3, 2));
        Check.is(4, () -> y.look(3, 3));
        Check.is(3, () -> y.count(0));
    }

    private static void doubleFarsOfLists() {
        SegmentDesk x = nearlyFull();
        Check.is(2, () -> x.list(2, 0, 2, 7, 2, 1, 0));
        Check.is(Words.doubleFar(0, 8), () -> x.at(0, 4));
        Check.is(Words.far(1, 7), () -> x.at(0, 8));
        Check.is(Words.list(0, 7, 2), () -> x.at(0, 9));
        Check.is(Words.struct(2, 1, 0), () -> x.at(1, 7));
        cursorIs(x, 2, 2, 64, 1, 7, 0, 0, 2, 7);
        SegmentDesk y = nearlyFull();
        Check.is(2, () -> y.list(2, 0, 2, 3, 12, 0, 0));
        Check.is(Words.list(0, 3, 12), () -> y.at(0, 9));
    }

    private static void noDoubleFarWithoutPad() {
        SegmentDesk x = begun(10);
        x.struct(0, -1, 0, 2, 6);
        x.struct(1, 0, 0, 6, 0);
        Check.is(9, () -> x.count(4));
        Check.is(7, () -> x.count(5));
        Check.is(1, () -> x.struct(2, 0, 1, 2, 1));
        Check.is(Words.far(2, 0), () -> x.at(0, 4));
        Check.is(7, () -> x.count(5));
        Check.is(4, () -> x.count(6));
        SegmentDesk y = begun(10);
        y.struct(0, -1, 0, 2, 6);
        y.struct(1, 0, 0, 6, 0);
        y.struct(1, 0, 1, 9, 0);
        y.struct(1, 0, 1, 9, 0);
        Check.is(4, () -> y.count(0));
        Check.noRoom(() -> y.struct(2, 0, 1, 2, 1));
        Check.is(7, () -> y.count(5));
        Check.is(1, () -> y.struct(2, 0, 1, 1, 1));
        Check.is(10, () -> y.count(5));
    }

    private static void newSegments() {
        SegmentDesk x = begun(4);
        Check.noRoom(() -> x.struct(0, -1, 0, 4, 0));
        Words.are(x, 0, 0);
        Check.is(1, () -> x.count(0));
        Check.is(1, () -> x.struct(0, -1, 0, 3, 0));
        Check.is(1, () -> x.struct(0, -1, 0, 3, 0));
        Check.is(1, () -> x.struct(0, -1, 0, 3, 0));
        Check.is(1, () -> x.struct(0, -1, 0, 3, 0));
        Check.is(4, () -> x.count(0));
        Check.is(3, () -> x.look(0, 2));
        Check.is(1, () -> x.look(0, 3));
        Check.noRoom(() -> x.struct(0, -1, 0, 1, 0));
        Check.is(1, () -> x.struct(0, -1, 0, 0, 0));
        SegmentDesk one = begun(1);
        Check.noRoom(() -> one.struct(0, -1, 0, 1, 0));
        Check.is(2, () -> one.list(0, -1, 0, 0, 64, 0, 0));
        Check.is(Words.list(0, 0, 64), () -> one.at(0, 0));
    }

    private static void noRoom() {
        SegmentDesk x = begun(64);
        x.struct(4, -1, 0, 1, 1);
        Check.noRoom(() -> x.list(4, 4, 0, 7, 64, 8, 8));
        Check.noRoom(() -> x.list(4, 4, 0, 5, 64, 0, 0));
        Check.noRoom(() -> x.list(4, 4, 0, 6, 64, 0, 0));
        Check.noRoom(() -> x.list(4, 4, 0, 7, 9, 7, 0));
        cursorIs(x, 4, 1, 64, 0, 1, 64, 1, 0, 0);
        Words.are(x, 0, Words.struct(0, 1, 1), 0, 0);
        Check.is(1, () -> x.count(0));
        Check.is(2, () -> x.list(5, 4, 0, 5, 63, 0, 0));
        Check.is(64, () -> x.count(5));
        Check.is(1, () -> x.look(5, 3));
        Check.is(1, () -> x.look(5, 2));
    }

    private static void wrongStructs() {
        SegmentDesk x = begun(60);
        Check.bad(() -> x.struct(-1, -1, 0, 1, 1));
        Check.bad(() -> x.struct(16, -1, 0, 1, 1));
        Check.bad(() -> x.struct(0, -2, 0, 1, 1));
        Check.bad(() -> x.struct(0, 16, 0, 1, 1));
        Check.bad(() -> x.struct(0, -1, 0, -1, 1));
        Check.bad(() -> x.struct(0, -1, 0, 21, 1));
        Check.bad(() -> x.struct(0, -1, 0, 1, -1));
        Check.bad(() -> x.struct(0, -1, 0, 1, 21));
        Check.bad(() -> x.struct(0, 5, 0, 21, 21));
        Check.kind(() -> x.struct(0, 5, 0, 1, 1));
        Check.kind(() -> x.struct(0, 5, -1, 1, 1));
        Check.is(1, () -> x.struct(1, -1, 0, 20, 2));
        Check.bad(() -> x.struct(0, 1, -1, 20, 20));
        Check.bad(() -> x.struct(0, 1, 2, 20, 20));
        Check.noRoom(() -> begun(40).struct(0, -1, 0, 20, 20));
        Check.is(2, () -> x.list(2, 1, 0, 6, 2, 0, 0));
        Check.bad(() -> x.struct(0, 2, 2, 1, 1));
        Check.bad(() -> x.struct(0, 2, -1, 1, 1));
        Check.is(1, () -> x.struct(0, 2, 1, 1, 1));
        for (int code : new int[] {0, 1, 2, 3, 4, 5, 7}) {
            x.list(3, 1, 1, code, 1, 1, 1);
            Check.kind(() -> x.struct(0, 3, 0, 1, 1));
            Check.kind(() -> x.struct(0, 3, 99, 1, 1));
        }
        x.list(3, 1, 1, 5, 1, 0, 0);
        x.element(3, 3, 0);
        Check.bad(() -> x.struct(0, 3, 0, 0, 0));
        x.word(0, 0, 0);
        Check.bad(() -> x.struct(0, -1, 0, 0, 0));
        Check.bad(() -> x.struct(0, 9, 0, 0, 0));
    }

    private static void wrongLists() {
        SegmentDesk x = begun(60);
        Check.bad(() -> x.list(-1, -1, 0, 1, 1, 0, 0));
        Check.bad(() -> x.list(16, -1, 0, 1, 1, 0, 0));
        Check.bad(() -> x.list(0, -2, 0, 1, 1, 0, 0));
        Check.bad(() -> x.list(0, 16, 0, 1, 1, 0, 0));
        Check.bad(() -> x.list(0, -1, 0, -1, 1, 0, 0));
        Check.bad(() -> x.list(0, -1, 0, 8, 1, 0, 0));
        Check.bad(() -> x.list(0, -1, 0, 1, -1, 0, 0));
        Check.bad(() -> x.list(0, -1, 0, 1, 65, 0, 0));
        Check.bad(() -> x.list(0, -1, 0, 7, 1, -1, 0));
        Check.bad(() -> x.list(0, -1, 0, 7, 1, 9, 0));
        Check.bad(() -> x.list(0, -1, 0, 7, 1, 0, -1));
        Check.bad(() -> x.list(0, -1, 0, 7, 1, 0, 9));
        Check.bad(() -> x.list(0, 5, 0, 7, 1, 0, 9));
        Check.kind(() -> x.list(0, 5, 0, 7, 1, 0, 8));
        Check.kind(() -> x.list(0, 5, -1, 1, 64, -1, 9));
        Words.are(x, 0, 0);
        x.struct(1, -1, 0, 1, 1);
        Check.bad(() -> x.list(0, 1, 1, 5, 64, 0, 0));
        Check.bad(() -> x.list(0, 1, -1, 5, 64, 0, 0));
        Check.noRoom(() -> x.list(0, 1, 0, 5, 64, 0, 0));
        x.list(1, -1, 0, 4, 1, 0, 0);
        Check.kind(() -> x.list(0, 1, 0, 5, 64, 0, 0));
        x.list(1, -1, 0, 6, 1, 0, 0);
        Check.bad(() -> x.list(0, 1, 1, 5, 64, 0, 0));
        Check.is(0, () -> x.look(0, 0));
        x.word(0, 0, 0);
        Check.bad(() -> x.list(0, 1, 0, 1, 1, 0, 0));
        Check.bad(() -> x.list(0, 5, 0, 1, 1, 0, 0));
    }

    private static void puts() {
        for (int bits : new int[] {1, 8, 16, 32, 64}) {
            long low = bits == 64 ? -1 : (1L << bits) - 1;
            for (int n = 0; n < 128 / bits; n++) {
                int field = n;
                SegmentDesk x = begun(8);
                x.struct(0, -1, 0, 2, 1);
                Check.fine(() -> x.put(0, bits, field, -1));
                Check.is(n * bits < 64 ? low << n * bits : 0, () -> x.at(0, 1));
                Check.is(n * bits >= 64 ? low << n * bits - 64 : 0, () -> x.at(0, 2));
                Check.is(0, () -> x.at(0, 3));
                Check.fine(() -> x.put(0, bits, field, bits == 64 ? 0 : 1L << bits));
                Check.is(0, () -> x.number(0, bits, field, 0));
            }
            SegmentDesk x = begun(8);
            x.struct(0, -1, 0, 2, 1);
            Check.bad(() -> x.put(0, bits, 128 / bits, 0));
            Check.bad(() -> x.put(0, bits, Integer.MAX_VALUE, 0));
        }
        SegmentDesk x = begun(8);
        x.struct(0, -1, 0, 1, 0);
        x.put(0, 64, 0, -1);
        x.put(0, 8, 1, 0x1234);
        Check.is(0xFFFFFFFFFFFF34FFL, () -> x.at(0, 1));
        Check.is(1, () -> x.count(3));
    }

    private static void putsIntoElements() {
        int[] bits = {0, 1, 8, 16, 32, 64};
        for (int code = 1; code <= 5; code++) {
            int b = bits[code];
            SegmentDesk x = begun(8);
            x.list(0, -1, 0, code, 3, 0, 0);
            Check.fine(() -> x.put(0, b, 2, -1));
            Check.is(b == 1 ? 1 : -1, () -> x.item(0, 2));
            Check.is(0, () -> x.item(0, 1));
            Check.bad(() -> x.put(0, b, 3, 1));
            Check.bad(() -> x.put(0, b, -1, 1));
            for (int other : new int[] {1, 8, 16, 32, 64}) {
                if (other != b) {
                    Check.kind(() -> x.put(0, other, 0, 1));
                    Check.kind(() -> x.put(0, other, 3, 1));
                }
            }
        }
        SegmentDesk x = begun(8);
        x.list(0, -1, 0, 3, 3, 0, 0);
        x.element(1, 0, 1);
        Check.fine(() -> x.put(1, 8, 1, 0x7F));
        Check.is(0x7F00, () -> x.item(0, 1));
        Check.is(0x7F000000L, () -> x.at(0, 1));
        Check.fine(() -> x.put(1, 1, 15, 1));
        Check.fine(() -> x.put(1, 16, 0, 0x12345));
        Check.is(0x23450000L, () -> x.at(0, 1));
        Check.bad(() -> x.put(1, 16, 1, 1));
        Check.bad(() -> x.put(1, 32, 0, 1));
        Check.bad(() -> x.put(1, 8, 2, 1));
        x.list(0, -1, 0, 7, 2, 1, 1);
        x.element(1, 0, 1);
        Check.fine(() -> x.put(1, 64, 0, 9));
        Check.is(9, () -> x.at(0, 5));
        Check.bad(() -> x.put(1, 64, 1, 9));
    }

    private static void wrongPuts() {
        SegmentDesk x = begun(20);
        x.struct(0, -1, 0, 1, 0);
        Check.bad(() -> x.put(-1, 8, 0, 0));
        Check.bad(() -> x.put(16, 8, 0, 0));
        Check.bad(() -> x.put(0, 8, -1, 0));
        for (int bits : new int[] {-8, 0, 2, 4, 24, 63, 65, 128}) {
            Check.bad(() -> x.put(0, bits, 0, 0));
            Check.bad(() -> x.put(1, bits, 0, 0));
        }
        Check.kind(() -> x.put(1, 8, 0, 0));
        Check.bad(() -> x.put(1, 8, -1, 0));
        for (int code : new int[] {0, 6, 7}) {
            x.list(2, -1, 0, code, 2, 1, 0);
            for (int bits : new int[] {1, 8, 16, 32, 64}) {
                Check.kind(() -> x.put(2, bits, 0, 0));
                Check.kind(() -> x.put(2, bits, 99, 0));
            }
        }
        x.word(0, 1, 0);
        Check.bad(() -> x.put(0, 64, 0, 5));
        Check.bad(() -> x.put(1, 64, 0, 5));
        Check.is(0, () -> x.at(0, 1));
    }

    private static void putReals() {
        java.util.Random random = new java.util.Random(2);
        double[] edges = {0.0, -0.0, 1, -1, 0.1, Math.PI, 1e300, -1e300, Double.MAX_VALUE, -Double.MAX_VALUE,
            Double.MIN_VALUE, -Double.MIN_VALUE, Double.MIN_NORMAL, Math.nextDown(Double.MIN_NORMAL), Float.MAX_VALUE,
            -Float.MAX_VALUE, Float.MIN_VALUE, Float.MIN_NORMAL, Math.nextDown(Float.MIN_NORMAL),
            Float.MIN_VALUE / 2.0, Math.nextUp(Float.MIN_VALUE / 2.0), -Float.MIN_VALUE / 4.0,
            0x1.fffffefffffffp127, 0x1.ffffffp127, -0x1.ffffffp127, 0x1.fffffep127, 1 + 0x1p-24, 1 + 0x3p-24,
            1 + 0x1.000001p-24, 16777217, 16777219, Double.POSITIVE_INFINITY, Double.NEGATIVE_INFINITY,
            Double.NaN};
        for (double v : edges) {
            putAndLook(v);
        }
        for (int k = 0; k < 3000; k++) {
            putAndLook(Double.longBitsToDouble(random.nextLong()));
            putAndLook(Float.intBitsToFloat(random.nextInt()));
            putAndLook(random.nextGaussian());
            putAndLook((random.nextInt(1 << 24) + 0.5) * Float.MIN_VALUE * random.nextInt(9));
        }
    }

    private static void putAndLook(double v) {
        SegmentDesk x = begun(8);
        x.struct(0, -1, 0, 2, 0);
        x.put(0, 64, 0, 0x5555555555555555L);
        x.put(0, 64, 1, 0x5555555555555555L);
        if (Double.isFinite(v)) {
            Check.fine(() -> x.putReal(0, true, 1, v));
            Check.is(Double.doubleToRawLongBits(v), () -> x.at(0, 2));
            Check.isReal(v, () -> x.real(0, true, 1));
        } else {
            Check.notFinite(() -> x.putReal(0, true, 1, v));
            Check.is(0x5555555555555555L, () -> x.at(0, 2));
        }
        if (Float.isFinite((float) v)) {
            Check.fine(() -> x.putReal(0, false, 1, v));
            Check.is((long) Float.floatToRawIntBits((float) v) << 32 | 0x55555555L, () -> x.at(0, 1));
            Check.isReal((float) v, () -> x.real(0, false, 1));
        } else {
            Check.notFinite(() -> x.putReal(0, false, 1, v));
            Check.is(0x5555555555555555L, () -> x.at(0, 1));
        }
    }

    private static void wrongPutReals() {
        SegmentDesk x = begun(20);
        x.struct(0, -1, 0, 2, 0);
        for (boolean wide : new boolean[] {false, true}) {
            Check.bad(() -> x.putReal(-1, wide, 0, 1));
            Check.bad(() -> x.putReal(16, wide, 0, 1));
            Check.bad(() -> x.putReal(0, wide, -1, 1));
            Check.bad(() -> x.putReal(1, wide, -1, 1));
            Check.kind(() -> x.putReal(1, wide, 0, 1));
            Check.kind(() -> x.putReal(1, wide, 0, Double.NaN));
            Check.bad(() -> x.putReal(0, wide, wide ? 2 : 4, 1));
            Check.bad(() -> x.putReal(0, wide, wide ? 2 : 4, Double.NaN));
            Check.bad(() -> x.putReal(0, wide, Integer.MAX_VALUE, 1));
            Check.fine(() -> x.putReal(0, wide, wide ? 1 : 3, 1));
            x.list(2, -1, 0, wide ? 5 : 4, 2, 0, 0);
            Check.kind(() -> x.putReal(2, wide, 0, 1));
            x.element(3, 2, 1);
            Check.fine(() -> x.putReal(3, wide, 0, -2.5));
            Check.isReal(-2.5, () -> x.real(3, wide, 0));
            Check.bad(() -> x.putReal(3, wide, 1, 1));
        }
        x.word(0, 0, 0);
        Check.bad(() -> x.putReal(0, true, 0, 1));
        Check.bad(() -> x.putReal(5, true, 0, 1));
    }
}

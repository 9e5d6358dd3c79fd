/** Promise 23: canonical. */
public final class CanonicalTest {
    public static void main(String[] args) {
        nothing();
        structs();
        emptyStructs();
        order();
        numberLists();
        lastBits();
        pointerLists();
        structLists();
        emptyStructLists();
        manySegments();
        sharedAndLoose();
        stateAfter();
        malformed();
        allowance();
        noRoom();
        whicheverComesFirst();
        depth();
        again();
        Check.end();
    }

    private static void becomes(SegmentDesk x, long... words) {
        Check.is(words.length, () -> x.canonical());
        Check.is(1, () -> x.count(0));
        Words.are(x, 0, words);
    }

    private static void nothing() {
        becomes(Words.desk(0), 0);
        becomes(Words.desk(0, 5, 6), 0);
    }

    private static void structs() {
        becomes(Words.desk(Words.struct(1, 3, 0), 99, 4, 5, 6), Words.struct(0, 3, 0), 4, 5, 6);
        becomes(Words.desk(Words.struct(0, 3, 0), 0, 5, 0), Words.struct(0, 2, 0), 0, 5);
        becomes(Words.desk(Words.struct(0, 2, 2), 0, 0, 0, Words.struct(0, 1, 0), 7),
                Words.struct(0, 0, 2), 0, Words.struct(0, 1, 0), 7);
        becomes(Words.desk(Words.struct(0, 1, 3), 8, Words.struct(2, 1, 0), 0, 0, 7),
                Words.struct(0, 1, 1), 8, Words.struct(0, 1, 0), 7);
        becomes(Words.desk(Words.struct(0, 1, 1), 8, 0), Words.struct(0, 1, 0), 8);
        long[] long63 = new long[64];
        java.util.Arrays.fill(long63, 9);
        long63[0] = Words.struct(0, 63, 0);
        becomes(Words.desk(long63), long63);
        long[] overlapping = new long[64];
        overlapping[0] = Words.struct(-1, 63, 1);
        overlapping[63] = Words.struct(-1, 0, 0);
        SegmentDesk x = Words.desk(overlapping);
        x.word(0, 0, Words.struct(-1, 63, 1));
        x.root(0, 64);
        Check.is(1, () -> x.follow(1, 0, 0));
        Check.is(63, () -> x.look(1, 3));
        becomes(x, Words.struct(0, 1, 1), overlapping[0], Words.struct(-1, 0, 0));
    }

    private static void emptyStructs() {
        becomes(Words.desk(Words.struct(-1, 0, 0)), Words.struct(-1, 0, 0));
        becomes(Words.desk(Words.struct(1, 0, 0), 5), Words.struct(-1, 0, 0));
        becomes(Words.desk(Words.struct(0, 2, 1), 0, 0, 0), Words.struct(-1, 0, 0));
        becomes(Words.desk(Words.struct(0, 0, 2), 0, Words.struct(0, 1, 0), 0),
                Words.struct(0, 0, 2), 0, Words.struct(-1, 0, 0));
    }

    private static void order() {
        // The root's two STRUCTS in the order of its POINTERS, the first with all that it leads to.
        SegmentDesk x = new SegmentDesk();
        x.begin(32);
        x.struct(0, -1, 0, 1, 3);
        x.put(0, 64, 0, 1);
        x.struct(2, 0, 2, 1, 0);
        x.put(2, 64, 0, 4);
        x.struct(1, 0, 0, 1, 1);
        x.put(1, 64, 0, 2);
        x.struct(3, 1, 0, 1, 0);
        x.put(3, 64, 0, 3);
        becomes(x, Words.struct(0, 1, 3), 1, Words.struct(2, 1, 1), 0, Words.struct(3, 1, 0),
                2, Words.struct(0, 1, 0), 3, 4);
    }

    private static void numberLists() {
        becomes(Words.desk(Words.list(1, 0, 700), 5), Words.list(0, 0, 700));
        becomes(Words.desk(Words.list(1, 5, 2), 9, 0, 0), Words.list(0, 5, 2), 0, 0);
        becomes(Words.desk(Words.list(1, 3, 0), 9), Words.list(0, 3, 0));
        becomes(Words.desk(Words.struct(0, 0, 2), Words.list(1, 2, 0), Words.list(0, 0, 3)),
                Words.struct(0, 0, 2), Words.list(1, 2, 0), Words.list(0, 0, 3));
        // A LIST without WORDS stands behind all that came before it.
        becomes(Words.desk(Words.struct(0, 0, 2), Words.list(1, 5, 1), Words.list(-1, 5, 0), 6),
                Words.struct(0, 0, 2), Words.list(1, 5, 1), Words.list(1, 5, 0), 6);
    }

    private static void lastBits() {
        becomes(Words.desk(Words.list(0, 1, 3), -1), Words.list(0, 1, 3), 7);
        becomes(Words.desk(Words.list(0, 1, 63), -1), Words.list(0, 1, 63), Long.MAX_VALUE);
        becomes(Words.desk(Words.list(0, 1, 64), -1), Words.list(0, 1, 64), -1);
        becomes(Words.desk(Words.list(0, 1, 65), -1, -1), Words.list(0, 1, 65), -1, 1);
        becomes(Words.desk(Words.list(0, 2, 9), -1, -1), Words.list(0, 2, 9), -1, 255);
        becomes(Words.desk(Words.list(0, 3, 3), -1), Words.list(0, 3, 3), 0xFFFFFFFFFFFFL);
        becomes(Words.desk(Words.list(0, 4, 3), -1, -1), Words.list(0, 4, 3), -1, 0xFFFFFFFFL);
        becomes(Words.desk(Words.list(0, 4, 2), -1), Words.list(0, 4, 2), -1);
        becomes(Words.desk(Words.list(0, 5, 1), -1), Words.list(0, 5, 1), -1);
    }

    private static void pointerLists() {
        becomes(Words.desk(Words.list(0, 6, 4), 0, Words.struct(3, 1, 0), Words.list(1, 5, 1), 0, 8, 9),
                Words.list(0, 6, 4), 0, Words.struct(2, 1, 0), Words.list(2, 5, 1), 0, 9, 8);
        becomes(Words.desk(Words.list(0, 6, 2), 0, 0), Words.list(0, 6, 2), 0, 0);
        becomes(Words.desk(Words.list(0, 6, 0)), Words.list(0, 6, 0));
    }

    private static void structLists() {
        // Two STRUCTS of DATA 3 and POINTERS 2 need DATA 2 and POINTERS 1; 1 WORD stands behind them.
        SegmentDesk x = Words.desk(Words.list(0, 7, 11), Words.struct(2, 3, 2),
                1, 0, 0, Words.struct(7, 1, 0), 0,
                0, 2, 0, 0, 0,
                77, 5);
        becomes(x, Words.list(0, 7, 6), Words.struct(2, 2, 1), 1, 0, Words.struct(3, 1, 0), 0, 2, 0, 5);
        SegmentDesk inOrder = Words.desk(Words.list(0, 7, 4), Words.struct(2, 0, 2),
                Words.list(5, 5, 1), Words.list(3, 5, 1), Words.list(1, 5, 1), 0, 3, 2, 1);
        Check.is(9, () -> inOrder.canonical());
        Words.are(inOrder, 0, Words.list(0, 7, 4), Words.struct(2, 0, 2),
                Words.list(3, 5, 1), Words.list(3, 5, 1), Words.list(3, 5, 1), 0, 1, 2, 3);
        becomes(Words.desk(Words.list(0, 7, 2), Words.struct(1, 1, 1), 0, 0),
                Words.list(0, 7, 0), Words.struct(1, 0, 0));
    }

    private static void emptyStructLists() {
        becomes(Words.desk(Words.list(0, 7, 0), Words.struct(900, 0, 0)), Words.list(0, 7, 0),
                Words.struct(900, 0, 0));
        becomes(Words.desk(Words.list(0, 7, 3), Words.struct(900, 0, 0), 1, 2, 3), Words.list(0, 7, 0),
                Words.struct(900, 0, 0));
        becomes(Words.desk(Words.list(0, 7, 0), Words.struct(0, 8, 9)), Words.list(0, 7, 0), 0);
        becomes(Words.desk(Words.list(0, 7, 0), 0), Words.list(0, 7, 0), 0);
        SegmentDesk many = Words.desk(Words.list(0, 7, 0), Words.struct(99999, 0, 0));
        many.allow(100000);
        becomes(many, Words.list(0, 7, 0), Words.struct(99999, 0, 0));
        Check.is(0, () -> many.count(2));
    }

    private static void manySegments() {
        SegmentDesk x = new SegmentDesk();
        x.segment(3, 1, 4, 3, 0);
        x.word(0, 0, Words.far(1, 1));
        Words.set(x, 1, 5, Words.struct(0, 0, 1), Words.doubleFar(2, 0), 0);
        Words.set(x, 2, Words.far(1, 0), Words.list(0, 2, 1), 0);
        becomes(x, Words.struct(0, 0, 1), Words.list(0, 2, 1), 5);
        Check.is(0, () -> x.count(5));
        Check.bad(() -> x.at(1, 0));
        SegmentDesk empty = new SegmentDesk();
        empty.segment(2, 1, 2, 0, 0);
        empty.word(0, 0, Words.doubleFar(1, 0));
        empty.word(1, 0, Words.far(1, 2));
        becomes(empty, Words.struct(-1, 0, 0));
    }

    private static void sharedAndLoose() {
        becomes(Words.desk(Words.struct(0, 0, 2), Words.struct(1, 1, 0), Words.struct(0, 1, 0), 6, 99),
                Words.struct(0, 0, 2), Words.struct(1, 1, 0), Words.struct(1, 1, 0), 6, 6);
    }

    private static void stateAfter() {
        SegmentDesk x = new SegmentDesk();
        x.begin(9);
        x.struct(4, -1, 0, 1, 1);
        x.put(4, 64, 0, 77);
        x.feed(5, 1);
        Check.is(2, () -> x.canonical());
        Check.is(0, () -> x.count(3));
        Check.is(0, () -> x.count(8));
        Check.is(1, () -> x.count(1));
        Check.is(998, () -> x.count(2));
        for (int what = 0; what < 8; what++) {
            int w = what;
            Check.is(0, () -> x.look(4, w));
        }
        Check.bad(() -> x.at(0, 2));
    }

    private static void stays(SegmentDesk x, long... words) {
        Words.are(x, 0, words);
        Check.is(1, () -> x.look(9, 0));
    }

    private static void malformed() {
        Check.malformed(() -> Words.desk().canonical());
        Check.malformed(() -> new SegmentDesk().canonical());
        Check.malformed(() -> Words.desk(3).canonical());
        Check.malformed(() -> Words.desk(Words.struct(0, 1, 0)).canonical());
        SegmentDesk second = new SegmentDesk();
        second.segment(2, 0, 1, 0, 0);
        Check.malformed(() -> second.canonical());
        long[] words = {Words.struct(0, 1, 2), 5, Words.struct(1, 1, 0), 3, 6};
        SegmentDesk x = Words.desk(words);
        x.root(9, 3);
        Check.malformed(() -> x.canonical());
        stays(x, words);
        Check.is(1000 - 3 - 3 - 1, () -> x.count(2));
        SegmentDesk later = Words.desk(Words.list(0, 6, 2), 0, Words.list(0, 6, 1));
        Check.malformed(() -> later.canonical());
    }

    private static void allowance() {
        long[] words = {Words.struct(0, 1, 2), 5, Words.struct(1, 2, 0), 0, 6, 0};
        SegmentDesk x = Words.desk(words);
        x.root(9, 3);
        x.allow(4);
        Check.malformed(() -> x.canonical());
        Check.is(1, () -> x.count(2));
        stays(x, words);
        x.allow(5);
        Check.is(4, () -> x.canonical());
        Check.is(0, () -> x.count(2));
        SegmentDesk own = new SegmentDesk();
        own.begin(9);
        own.struct(3, -1, 0, 1, 0);
        own.allow(0);
        Check.malformed(() -> own.canonical());
        Check.is(1, () -> own.count(3));
        Check.is(1, () -> own.look(3, 0));
    }

    /** SEGMENT 0: a STRUCT of POINTERS, each to the LIST of so many WORDS behind them. */
    private static SegmentDesk shared(int pointers, int length) {
        SegmentDesk x = new SegmentDesk();
        x.segment(1, 1 + pointers + length, 0, 0, 0);
        x.word(0, 0, Words.struct(0, 0, pointers));
        for (int p = 0; p < pointers; p++) {
            x.word(0, 1 + p, Words.list(pointers - 1 - p, 5, length));
        }
        return x;
    }

    private static void noRoom() {
        SegmentDesk full = shared(3, 20);
        Check.is(64, () -> full.canonical());
        SegmentDesk over = shared(4, 20);
        Check.noRoom(() -> over.canonical());
        Check.is(25, () -> over.count(4));
        // Of the STRUCT, and of three LISTS of which the last finds no room.
        SegmentDesk third = shared(3, 21);
        Check.noRoom(() -> third.canonical());
        Check.is(1000 - 3 - 63, () -> third.count(2));
        SegmentDesk fits = Words.desk(new long[64]);
        fits.word(0, 0, Words.list(0, 5, 63));
        Check.is(64, () -> fits.canonical());
        SegmentDesk self = Words.desk(new long[64]);
        self.word(0, 0, Words.list(-1, 5, 64));
        Check.noRoom(() -> self.canonical());
        Check.is(936, () -> self.count(2));
    }

    private static void whicheverComesFirst() {
        SegmentDesk roomFirst = shared(5, 20);
        roomFirst.word(0, 5, 3);
        Check.noRoom(() -> roomFirst.canonical());
        SegmentDesk malformedFirst = shared(5, 20);
        malformedFirst.word(0, 3, 3);
        Check.malformed(() -> malformedFirst.canonical());
        SegmentDesk allowanceFirst = shared(4, 20);
        allowanceFirst.allow(4 + 59);
        Check.malformed(() -> allowanceFirst.canonical());
        Check.is(19, () -> allowanceFirst.count(2));
        // The thing itself is FOLLOWED before it is laid down, what it leads to behind that.
        SegmentDesk inside = Words.desk(new long[64]);
        inside.word(0, 0, Words.list(-1, 6, 64));
        inside.word(0, 1, 3);
        Check.noRoom(() -> inside.canonical());
        Check.is(936, () -> inside.count(2));
    }

    private static void depth() {
        SegmentDesk loop = Words.desk(Words.struct(-1, 0, 1));
        Check.noRoom(() -> loop.canonical());
        Check.is(1000 - 64, () -> loop.count(2));
        SegmentDesk chain = Words.desk(new long[64]);
        for (int k = 0; k < 63; k++) {
            chain.word(0, k, Words.struct(0, 0, 1));
        }
        chain.word(0, 63, Words.struct(-1, 0, 0));
        Check.is(64, () -> chain.canonical());
        Check.is(Words.struct(-1, 0, 0), () -> chain.at(0, 63));
        Check.is(Words.struct(0, 0, 1), () -> chain.at(0, 62));
        Check.is(937, () -> chain.count(2));
    }

    private static void again() {
        SegmentDesk x = Words.desk(Words.list(0, 7, 11), Words.struct(2, 3, 2),
                1, 0, 0, Words.struct(7, 1, 0), 0,
                0, 2, 0, 0, Words.list(-5, 1, 70),
                77, 5);
        int words = x.canonical();
        long[] first = new long[words];
        for (int k = 0; k < words; k++) {
            first[k] = x.at(0, k);
        }
        becomes(x, first);
    }
}

/** States to call from. Each is made anew whenever it is needed, so that no object comes near its 512th call. */
final class Scenes {
    interface Scene {
        SegmentDesk make();
    }

    /** What is done to an object, in a scene. */
    interface Deed {
        void on(SegmentDesk x);
    }

    static final Scene[] ALL = {SegmentDesk::new, Scenes::reading, Scenes::building, Scenes::crowded,
        Scenes::rootless};

    private Scenes() {
    }

    /**
     * WORDS that were set. CURSOR 0: the root STRUCT, whose POINTER 9 is a HANDLE; 1 to 8: LISTS of CODE 0 to 7;
     * 9: a LIST by FAR; 10: element 3 of CODE 2; 11: element 0 of CODE 6; 12: element 1 of CODE 7; 13: a STRUCT by
     * DOUBLE FAR; 14: element 4 of CODE 0; 15: NOTHING.
     */
    static SegmentDesk reading() {
        SegmentDesk x = new SegmentDesk();
        x.segment(3, 21, 5, 2, 0);
        Words.set(x, 0, Words.struct(0, 1, 10), 0x8877665544332211L,
                Words.list(9, 0, 5), Words.list(8, 1, 70), Words.list(7, 2, 9), Words.list(6, 3, 5),
                Words.list(5, 4, 3), Words.list(4, 5, 2), Words.list(5, 6, 2), Words.list(6, 7, 4),
                Words.far(1, 0), 3, 0x0102030405060708L, 0xF1F2F3F4F5F6F7F8L,
                Words.struct(-14, 1, 0), 0,
                Words.struct(2, 1, 1), 7, 0, 8, Words.doubleFar(2, 0));
        Words.set(x, 1, Words.list(1, 5, 2), 0, -2, 0x7FF0000000000000L, 0);
        Words.set(x, 2, Words.far(1, 2), Words.struct(0, 2, 1));
        x.root(0, 10);
        for (int k = 0; k < 9; k++) {
            x.follow(1 + k, 0, k);
        }
        x.element(10, 3, 3);
        x.element(11, 7, 0);
        x.element(12, 8, 1);
        x.follow(13, 12, 0);
        x.element(14, 1, 4);
        Words.feed(x, 0x10, 1, 0x01, 5);
        return x;
    }

    /**
     * An OWN MESSAGE of SIZE 12, one WORD left in each of its two SEGMENTS. CURSOR 0: the root STRUCT of DATA 2 and
     * POINTERS 3; 1: a LIST of five of CODE 3; 2: a STRUCT in SEGMENT 1; 3: a LIST of two STRUCTS; 4: a LIST of two
     * POINTERS; 5: element 1 of CURSOR 3; 6: element 3 of CURSOR 1; 7: the root, FOLLOWED; 15: NOTHING.
     */
    static SegmentDesk building() {
        SegmentDesk x = new SegmentDesk();
        x.begin(12);
        x.struct(0, -1, 0, 2, 3);
        x.list(1, 0, 0, 3, 5, 0, 0);
        x.struct(2, 0, 1, 3, 2);
        x.list(3, 2, 0, 7, 2, 1, 1);
        x.list(4, 2, 1, 6, 2, 0, 0);
        x.element(5, 3, 1);
        x.element(6, 1, 3);
        x.put(0, 64, 1, -7);
        x.put(1, 16, 4, 0x1234);
        x.put(5, 8, 2, 9);
        x.putReal(2, true, 0, 2.5);
        x.root(7, 5);
        x.pack();
        return x;
    }

    /** An OWN MESSAGE of 4 SEGMENTS that are full, and 1500 octets. CURSORS 0 to 3 at a STRUCT in each. */
    static SegmentDesk crowded() {
        SegmentDesk x = new SegmentDesk();
        x.begin(4);
        x.struct(0, -1, 0, 1, 2);
        x.struct(1, 0, 0, 2, 1);
        x.struct(2, 0, 1, 3, 0);
        x.struct(3, 1, 0, 1, 2);
        x.put(3, 32, 1, 77);
        x.feed(0x0110, 4);
        for (int k = 0; k < 187; k++) {
            x.feed(0x0102030405060708L * (k + 1), 8);
        }
        return x;
    }

    /** SEGMENT 0 has no WORD. */
    static SegmentDesk rootless() {
        SegmentDesk x = new SegmentDesk();
        x.segment(2, 0, 3, 0, 0);
        x.word(1, 2, 5);
        x.allow(7);
        return x;
    }

    static SegmentDesk begun(int size) {
        SegmentDesk x = new SegmentDesk();
        x.begin(size);
        return x;
    }

    static long[] w(long... words) {
        return words;
    }

    /** These SEGMENTS, ALLOWANCE 100000; CURSOR 5 at a LIST of 3, to see whether it stays. */
    static SegmentDesk placed(long[]... segments) {
        SegmentDesk x = new SegmentDesk();
        x.segment(1, 1, 0, 0, 0);
        int[] length = new int[4];
        for (int s = 0; s < segments.length; s++) {
            length[s] = segments[s].length;
        }
        x.segment(segments.length, length[0], length[1], length[2], length[3]);
        if (length[0] > 0) {
            x.word(0, 0, Words.list(-1, 0, 3));
            x.root(5, 9);
        }
        for (int s = 0; s < segments.length; s++) {
            Words.set(x, s, segments[s]);
        }
        x.allow(100000);
        return x;
    }
}

/** Puts WORDS together as the document's picture of a POINTER says. */
final class Words {
    private Words() {
    }

    static long struct(int offset, int data, int pointers) {
        return (offset & 0x3FFFFFFFL) << 2 | (long) data << 32 | (long) pointers << 48;
    }

    static long list(int offset, int code, int count) {
        return 1 | (offset & 0x3FFFFFFFL) << 2 | (long) code << 32 | (long) count << 35;
    }

    static long far(long segment, long place) {
        return 2 | place << 3 | segment << 32;
    }

    static long doubleFar(long segment, long place) {
        return 6 | place << 3 | segment << 32;
    }

    /** A desk with a MESSAGE of one SEGMENT of these WORDS. */
    static SegmentDesk desk(long... words) {
        SegmentDesk x = new SegmentDesk();
        x.segment(1, words.length, 0, 0, 0);
        set(x, 0, words);
        return x;
    }

    static void set(SegmentDesk x, int segment, long... words) {
        for (int k = 0; k < words.length; k++) {
            x.word(segment, k, words[k]);
        }
    }

    /** Looks at all WORDS of a SEGMENT. */
    static void are(SegmentDesk x, int segment, long... words) {
        Check.is(words.length, () -> x.count(4 + segment));
        for (int k = 0; k < words.length; k++) {
            int place = k;
            Check.is(words[k], () -> x.at(segment, place));
        }
    }

    static void feed(SegmentDesk x, int... octets) {
        for (int octet : octets) {
            x.feed(octet, 1);
        }
    }

    static void octetsAre(SegmentDesk x, int... octets) {
        Check.is(octets.length, () -> x.count(1));
        for (int k = 0; k < octets.length; k++) {
            int place = k;
            Check.is(octets[k], () -> x.octet(place));
        }
    }
}

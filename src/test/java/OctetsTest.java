/** Promises 18 to 22: pack, octet, feed, drop, take. */
public final class OctetsTest {
    public static void main(String[] args) {
        frames();
        tags();
        zeroRuns();
        fullRuns();
        packsAgain();
        longRuns();
        tooMany();
        octets();
        feeds();
        drops();
        takes();
        takesWhatIsNotSmallest();
        endsWithin();
        wrongFrames();
        wrongCounts();
        hugeRuns();
        takingChanges();
        thereAndBack();
        Check.end();
    }

    private static void packsTo(SegmentDesk x, int... octets) {
        Check.is(octets.length, () -> x.pack());
        Words.octetsAre(x, octets);
    }

    private static void frames() {
        SegmentDesk x = new SegmentDesk();
        packsTo(x, 0, 0);
        x.segment(1, 1, 0, 0, 0);
        packsTo(x, 0x10, 1, 0, 0);
        x.segment(2, 2, 1, 0, 0);
        packsTo(x, 0x11, 1, 2, 0x01, 1, 0, 2);
        x.segment(3, 2, 0, 3, 0);
        packsTo(x, 0x11, 2, 2, 0x10, 3, 0, 4);
        x.segment(4, 0, 0, 64, 64);
        packsTo(x, 0x01, 3, 0x10, 64, 0x01, 64, 0, 127);
        x.segment(4, 0, 0, 0, 0);
        packsTo(x, 0x01, 3, 0, 1);
    }

    private static void tags() {
        packsTo(Words.desk(0x0807060504030201L), 0x10, 1, 255, 1, 2, 3, 4, 5, 6, 7, 8, 0);
        packsTo(Words.desk(0x8000000000FF0000L), 0x10, 1, 0x84, 0xFF, 0x80);
        packsTo(Words.desk(1, 2L << 56), 0x10, 2, 1, 1, 0x80, 2);
        SegmentDesk x = new SegmentDesk();
        x.segment(2, 1, 1, 0, 0);
        x.word(0, 0, 5);
        x.word(1, 0, 7 << 8);
        packsTo(x, 0x11, 1, 1, 1, 1, 1, 5, 2, 7);
    }

    private static void zeroRuns() {
        packsTo(Words.desk(0, 5), 0x10, 2, 0, 0, 1, 5);
        packsTo(Words.desk(0, 0, 0, 5, 0), 0x10, 5, 0, 2, 1, 5, 0, 0);
    }

    private static void fullRuns() {
        long full = 0x0101010101010101L;
        long seven = 0x0101010100010101L;
        long six = 0x0001010100010101L;
        packsTo(Words.desk(full, seven, six), 0x10, 3, 255, 1, 1, 1, 1, 1, 1, 1, 1, 1,
                1, 1, 1, 0, 1, 1, 1, 1, 0x77, 1, 1, 1, 1, 1, 1);
        packsTo(Words.desk(seven, full), 0x10, 2, 0xF7, 1, 1, 1, 1, 1, 1, 1, 255, 1, 1, 1, 1, 1, 1, 1, 1, 0);
        packsTo(Words.desk(full, full, 0, full), 0x10, 4, 255, 1, 1, 1, 1, 1, 1, 1, 1, 1,
                1, 1, 1, 1, 1, 1, 1, 1, 0, 0, 255, 1, 1, 1, 1, 1, 1, 1, 1, 0);
        packsTo(Words.desk(full, six, full), 0x10, 3, 255, 1, 1, 1, 1, 1, 1, 1, 1, 0,
                0x77, 1, 1, 1, 1, 1, 1, 255, 1, 1, 1, 1, 1, 1, 1, 1, 0);
    }

    /** What an earlier pack left behind must not come into a later one. */
    private static void packsAgain() {
        SegmentDesk x = Words.desk(-1, -1, -1);
        x.pack();
        x.segment(1, 1, 0, 0, 0);
        x.word(0, 0, -1);
        packsTo(x, 0x10, 1, 255, 255, 255, 255, 255, 255, 255, 255, 255, 0);
        x.segment(1, 5, 0, 0, 0);
        x.pack();
        x.segment(1, 2, 0, 0, 0);
        packsTo(x, 0x10, 2, 0, 1);
    }

    private static void longRuns() {
        SegmentDesk x = new SegmentDesk();
        x.segment(4, 64, 64, 64, 64);
        packsTo(x, 0x11, 3, 64, 0x11, 64, 64, 1, 64, 0, 255);
        x.word(3, 63, 9);
        packsTo(x, 0x11, 3, 64, 0x11, 64, 64, 1, 64, 0, 254, 1, 9);
        SegmentDesk y = new SegmentDesk();
        y.segment(4, 64, 64, 64, 0);
        y.word(0, 0, -1);
        packsTo(y, 0x11, 3, 64, 0x11, 64, 64, 0, 0, 255, 255, 255, 255, 255, 255, 255, 255, 255, 0, 0, 190);
    }

    private static void tooMany() {
        SegmentDesk x = new SegmentDesk();
        x.segment(3, 64, 64, 64, 0);
        Words.feed(x, 1, 2, 3);
        fillWith(x, 0, 64);
        fillWith(x, 1, 64);
        fillWith(x, 2, 57);
        // 3 + 3 octets in front, 10 for the first WORD, 8 for each of the 184 others, then 0 and a count.
        Check.is(6 + 10 + 184 * 8 + 2, () -> x.pack());
        x.drop();
        Words.feed(x, 1, 2, 3);
        x.word(2, 57, -1);
        Check.is(6 + 10 + 185 * 8 + 2, () -> x.pack());
        x.word(2, 58, 1L << 63);
        Check.is(1500, () -> x.pack());
        x.drop();
        Words.feed(x, 1, 2, 3);
        x.word(2, 58, 3L << 55);
        Check.noRoom(() -> x.pack());
        Words.octetsAre(x, 1, 2, 3);
        fillWith(x, 2, 64);
        Check.noRoom(() -> x.pack());
        Words.octetsAre(x, 1, 2, 3);
        Check.is(3, () -> x.count(0));
        Check.is(4, () -> x.feed(9, 1));
        Words.octetsAre(x, 1, 2, 3, 9);
    }

    private static void fillWith(SegmentDesk x, int segment, int words) {
        for (int k = 0; k < words; k++) {
            x.word(segment, k, -1);
        }
    }

    private static void octets() {
        SegmentDesk x = new SegmentDesk();
        Check.bad(() -> x.octet(0));
        Words.feed(x, 255, 0, 128);
        Words.octetsAre(x, 255, 0, 128);
        Check.bad(() -> x.octet(-1));
        Check.bad(() -> x.octet(3));
        Check.bad(() -> x.octet(Integer.MAX_VALUE));
    }

    private static void feeds() {
        SegmentDesk x = new SegmentDesk();
        Check.is(3, () -> x.feed(0x8877665544332211L, 3));
        Check.is(11, () -> x.feed(0x8877665544332211L, 8));
        Words.octetsAre(x, 0x11, 0x22, 0x33, 0x11, 0x22, 0x33, 0x44, 0x55, 0x66, 0x77, 0x88);
        Check.bad(() -> x.feed(1, 0));
        Check.bad(() -> x.feed(1, -1));
        Check.bad(() -> x.feed(1, 9));
        for (int k = 0; k < 186; k++) {
            x.feed(-1, 8);
        }
        Check.is(1499, () -> x.count(1));
        Check.noRoom(() -> x.feed(1, 2));
        Check.noRoom(() -> x.feed(1, 8));
        Check.is(1499, () -> x.count(1));
        Check.is(1500, () -> x.feed(7, 1));
        Check.is(7, () -> x.octet(1499));
        Check.noRoom(() -> x.feed(7, 1));
        Check.bad(() -> x.feed(7, 9));
        Check.bad(() -> x.octet(1500));
    }

    private static void drops() {
        SegmentDesk x = new SegmentDesk();
        Check.is(0, () -> x.drop());
        Words.feed(x, 1, 2, 3);
        Check.is(3, () -> x.drop());
        Check.is(0, () -> x.count(1));
        Check.bad(() -> x.octet(0));
        Check.is(1, () -> x.feed(5, 1));
        Words.octetsAre(x, 5);
    }

    private static SegmentDesk taken(int segments, int... octets) {
        SegmentDesk x = new SegmentDesk();
        Words.feed(x, octets);
        Check.is(segments, () -> x.take());
        Check.is(segments, () -> x.count(0));
        Words.octetsAre(x, octets);
        return x;
    }

    private static void takes() {
        Words.are(taken(1, 0, 0), 0);
        Words.are(taken(1, 0x10, 1, 0x84, 0xFF, 0x80), 0, 0x8000000000FF0000L);
        Words.are(taken(1, 0x10, 3, 0, 2), 0, 0, 0, 0);
        Words.are(taken(1, 0x10, 2, 255, 1, 2, 3, 4, 5, 6, 7, 8, 1, 0, 9, 0, 0, 0, 0, 0, 0), 0,
                0x0807060504030201L, 0x0900L);
        SegmentDesk two = taken(2, 0x11, 1, 1, 1, 1, 1, 5, 2, 7);
        Words.are(two, 0, 5);
        Words.are(two, 1, 0x700);
        SegmentDesk three = taken(3, 0x11, 2, 0, 0x11, 1, 1, 1, 8, 1, 9);
        Words.are(three, 0);
        Words.are(three, 1, 8);
        Words.are(three, 2, 9);
        SegmentDesk four = taken(4, 0x11, 3, 64, 0x11, 64, 64, 1, 64, 0, 255);
        Words.are(four, 3, new long[64]);
        taken(4, 0x01, 3, 0, 1);
    }

    private static void takesWhatIsNotSmallest() {
        Words.are(taken(1, 0x13, 0, 0, 1, 1, 0), 0, 0);
        // A number of 0 groups, again and again, and a TAG whose octets are 0.
        Words.are(taken(1, 0x10, 3, 0, 0, 0, 0, 255, 0, 0, 0, 0, 0, 0, 0, 0, 0), 0, 0, 0, 0);
        // The four octets behind an even number of sizes are not looked at.
        SegmentDesk x = taken(2, 0x11, 1, 1, 0xF1, 1, 7, 7, 7, 7, 0, 1);
        Words.are(x, 0, 0);
        Words.are(x, 1, 0);
        taken(4, 0x01, 3, 0, 0, 0xF0, 9, 9, 9, 9);
    }

    private static void takeIsMalformed(int... octets) {
        SegmentDesk x = new SegmentDesk();
        x.begin(9);
        x.struct(4, -1, 0, 1, 0);
        x.put(4, 64, 0, 77);
        Words.feed(x, octets);
        Check.malformed(() -> x.take());
        Check.is(1, () -> x.count(3));
        Words.are(x, 0, Words.struct(0, 1, 0), 77);
        Check.is(1, () -> x.look(4, 0));
        Words.octetsAre(x, octets);
    }

    private static void endsWithin() {
        takeIsMalformed();
        takeIsMalformed(0);
        takeIsMalformed(0x10);
        takeIsMalformed(0x11, 1);
        takeIsMalformed(0x10, 1, 0);
        takeIsMalformed(0x10, 1, 255, 1, 2, 3, 4, 5, 6, 7);
        takeIsMalformed(0x10, 1, 255, 1, 2, 3, 4, 5, 6, 7, 8);
        takeIsMalformed(0x10, 2, 255, 1, 2, 3, 4, 5, 6, 7, 8, 1, 1, 2, 3, 4, 5, 6, 7);
        takeIsMalformed(0x10, 1, 255, 1, 2, 3, 4, 5, 6, 7, 8, 1);
    }

    private static void wrongFrames() {
        takeIsMalformed(0x01, 4, 0, 2);
        takeIsMalformed(0x01, 4, 0, 1);
        takeIsMalformed(0x0F, 255, 255, 255, 255);
        takeIsMalformed(0x08, 0x80);
        takeIsMalformed(0x02, 1, 0, 9);
        takeIsMalformed(0x10, 65, 0, 64);
        takeIsMalformed(0x80, 0x80);
        takeIsMalformed(0xF0, 255, 255, 255, 255);
        takeIsMalformed(0x20, 1, 0, 255);
        takeIsMalformed(0x01, 1);
        takeIsMalformed(0x01, 2);
        takeIsMalformed(0x01, 3, 0, 0);
        takeIsMalformed(0x01, 1, 1, 65, 0, 64);
        takeIsMalformed(0x01, 2, 0x10, 65, 0, 64);
        takeIsMalformed(0x01, 3, 0, 0, 1, 65, 0, 64);
    }

    private static void wrongCounts() {
        takeIsMalformed(0x10, 1);
        takeIsMalformed(0x10, 1, 0, 1);
        takeIsMalformed(0x10, 3, 0, 1);
        takeIsMalformed(0, 1);
        takeIsMalformed(0x11, 1, 1, 1, 1, 1, 5);
        takeIsMalformed(0x11, 1, 1, 1, 1, 1, 5, 2, 7, 1, 1);
        takeIsMalformed(0x11, 3, 64, 0x11, 64, 64, 1, 64, 0, 254);
        takeIsMalformed(0x11, 3, 64, 0x11, 64, 64, 1, 64, 0, 255, 0, 0);
    }

    private static void hugeRuns() {
        SegmentDesk x = new SegmentDesk();
        x.feed(0x0110, 2);
        for (int k = 0; k < 187; k++) {
            x.feed(0xFF00FF00FF00FF00L, k == 186 ? 2 : 8);
        }
        Check.malformed(() -> x.take());
        Check.is(1492, () -> x.count(1));
    }

    private static void takingChanges() {
        SegmentDesk x = new SegmentDesk();
        x.begin(9);
        x.struct(4, -1, 0, 1, 0);
        x.pack();
        Check.is(1, () -> x.look(4, 0));
        Check.is(1, () -> x.take());
        for (int what = 0; what < 8; what++) {
            int w = what;
            Check.is(0, () -> x.look(4, w));
        }
        Check.is(0, () -> x.count(3));
        Check.is(0, () -> x.count(8));
        Check.is(1, () -> x.take());
        x.segment(4, 64, 64, 64, 64);
        fillWith(x, 3, 64);
        x.drop();
        Words.feed(x, 0x01, 1, 0, 0);
        Check.is(2, () -> x.take());
        Check.is(0, () -> x.count(4));
        Check.is(0, () -> x.count(7));
    }

    private static void thereAndBack() {
        java.util.Random random = new java.util.Random(3);
        for (int k = 0; k < 300; k++) {
            SegmentDesk x = new SegmentDesk();
            int n = 1 + random.nextInt(4);
            int[] sizes = new int[4];
            for (int s = 0; s < n; s++) {
                sizes[s] = random.nextInt(40);
            }
            x.segment(n, sizes[0], sizes[1], sizes[2], sizes[3]);
            long[][] words = new long[n][];
            for (int s = 0; s < n; s++) {
                words[s] = new long[sizes[s]];
                for (int i = 0; i < sizes[s]; i++) {
                    words[s][i] = sparse(random);
                }
                Words.set(x, s, words[s]);
            }
            x.pack();
            x.segment(1, 0, 0, 0, 0);
            Check.is(n, () -> x.take());
            for (int s = 0; s < n; s++) {
                Words.are(x, s, words[s]);
            }
        }
    }

    private static long sparse(java.util.Random random) {
        long word = random.nextLong() | 0x0101010101010101L;
        int zeros = random.nextInt(4) == 0 ? 8 : random.nextInt(4);
        for (int k = 0; k < zeros; k++) {
            word &= ~(255L << 8 * (zeros == 8 ? k : random.nextInt(8)));
        }
        return word;
    }
}

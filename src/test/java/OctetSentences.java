/** Terms: FRAMED and PACKED; promises 18 to 22. */
final class OctetSentences {
    private static final long FULL = 0x0102030405060708L;
    private static final long SEVEN = 0x0102030400060708L;
    private static final long SIX = 0x0002030400060708L;
    private static final int MIN = Integer.MIN_VALUE;
    private static final int MAX = Integer.MAX_VALUE;

    private OctetSentences() {
    }

    static void all() {
        framing();
        packs();
        octets();
        takes();
    }

    private static void framing() {
        Sentences.in("Terms");
        Sentences.holds("FRAMED: four octets, the lowest first, how many SEGMENTS less 1; four for each SEGMENT, how "
                + "many WORDS;", OctetSentences::frames);
        Sentences.holds("four 0 if there is an even number of SEGMENTS;", OctetSentences::evenFrames);
        Sentences.holds("then the WORDS of all, lowest octets first.", OctetSentences::wordsOfFrames);
        Sentences.holds("PACKED: for 8 octets each: a TAG, whose bit k is 1 if octet k is not 0, and those octets;",
                OctetSentences::tags);
        Sentences.holds("behind a TAG 0 one octet: how many groups of 8 that are all 0 follow (255 at most; those are "
                + "left out);", OctetSentences::zeroRuns);
        Sentences.holds("behind a TAG 255 and its eight octets one octet: how many groups follow that stand there as "
                + "they are", OctetSentences::fullRuns);
        Sentences.holds("(255 at most: those, from the next one on, in which at most one octet is 0).",
                OctetSentences::whatStandsInFullRuns);
    }

    private static void packs() {
        Sentences.in("Promise 18");
        Sentences.holds("The octets are the MESSAGE, FRAMED and PACKED: how many.", OctetSentences::packed);
        Sentences.holds("NO ROOM: there would be more than 1500; then there are those from before.",
                OctetSentences::packNoRoom);
    }

    private static void octets() {
        Sentences.in("Promise 19");
        Sentences.holds("Octet k;", OctetSentences::octetsThere);
        Sentences.holds("BAD: there is none.", OctetSentences::badOctets);
        Sentences.in("Promise 20");
        Sentences.holds("The n (1..8) lowest octets of w come to the octets (lowest first): how many there are.",
                OctetSentences::fed);
        Sentences.holds("BAD: n.", OctetSentences::badFeeds);
        Sentences.holds("NO ROOM: 1500.", OctetSentences::feedNoRoom);
        Sentences.in("Promise 21");
        Sentences.holds("There are no octets: how many there were.", OctetSentences::dropped);
    }

    private static void takes() {
        Sentences.in("Promise 22");
        Sentences.holds("The MESSAGE is the one that the octets are, taken apart", OctetSentences::taken);
        Sentences.holds("(not OWN; CURSORS at NOTHING): how many SEGMENTS.", OctetSentences::stateWhenTaken);
        Sentences.holds("(The octets stay.)", OctetSentences::octetsStay);
        Sentences.holds("MALFORMED: they end within something;", OctetSentences::endsWithin);
        Sentences.holds("or, taken apart, there are no whole groups for the numbers in front,",
                OctetSentences::noNumbers);
        Sentences.holds("more than 4 SEGMENTS,", OctetSentences::tooManySegments);
        Sentences.holds("one of more than 64 WORDS,", OctetSentences::tooManyWords);
        Sentences.holds("or not just as many groups as are said.", OctetSentences::otherGroups);
        Sentences.holds("(The four octets 0 are not looked at.)", OctetSentences::fourOctets);
    }

    private static SegmentDesk sized(int n, int a, int b, int c, int d) {
        SegmentDesk x = new SegmentDesk();
        x.segment(n, a, b, c, d);
        return x;
    }

    private static void packsTo(SegmentDesk x, int... octets) {
        Check.is(octets.length, () -> x.pack());
        Words.octetsAre(x, octets);
    }

    private static void frames() {
        packsTo(sized(1, 0, 0, 0, 0), 0, 0);
        packsTo(sized(1, 1, 0, 0, 0), 0x10, 1, 0, 0);
        packsTo(sized(1, 64, 0, 0, 0), 0x10, 64, 0, 63);
        packsTo(sized(3, 1, 2, 3, 0), 0x11, 2, 1, 0x11, 2, 3, 0, 5);
        packsTo(sized(3, 0, 0, 64, 0), 0x01, 2, 0x10, 64, 0, 63);
        packsTo(new SegmentDesk(), 0, 0);
        // An OWN MESSAGE: what is used.
        packsTo(Scenes.begun(64), 0x10, 1, 0, 0);
    }

    private static void evenFrames() {
        packsTo(sized(2, 1, 2, 0, 0), 0x11, 1, 1, 0x01, 2, 0, 2);
        packsTo(sized(2, 0, 0, 0, 0), 0x01, 1, 0, 0);
        packsTo(sized(4, 1, 2, 3, 4), 0x11, 3, 1, 0x11, 2, 3, 0x01, 4, 0, 9);
        packsTo(sized(4, 0, 0, 0, 0), 0x01, 3, 0, 1);
        SegmentDesk two = sized(2, 1, 1, 0, 0);
        two.word(0, 0, 5);
        packsTo(two, 0x11, 1, 1, 0x01, 1, 0x01, 5, 0, 0);
    }

    private static void wordsOfFrames() {
        SegmentDesk x = sized(3, 1, 0, 2, 0);
        x.word(0, 0, 0x0002000000000001L);
        x.word(2, 0, 3);
        x.word(2, 1, 0xFF00L);
        packsTo(x, 0x11, 2, 1, 0x10, 2, 0x41, 1, 2, 0x01, 3, 0x02, 0xFF);
    }

    private static void tags() {
        for (int tag = 1; tag < 255; tag++) {
            long word = 0;
            int[] due = new int[3 + Integer.bitCount(tag)];
            due[0] = 0x10;
            due[1] = 1;
            due[2] = tag;
            int at = 3;
            for (int k = 0; k < 8; k++) {
                if ((tag >> k & 1) != 0) {
                    word |= (200L + k) << 8 * k;
                    due[at++] = 200 + k;
                }
            }
            packsTo(Words.desk(word), due);
        }
        packsTo(Words.desk(FULL), 0x10, 1, 255, 8, 7, 6, 5, 4, 3, 2, 1, 0);
        packsTo(Words.desk(0x80L), 0x10, 1, 0x01, 0x80);
        packsTo(Words.desk(Long.MIN_VALUE), 0x10, 1, 0x80, 0x80);
    }

    private static void zeroRuns() {
        packsTo(Words.desk(0), 0x10, 1, 0, 0);
        packsTo(Words.desk(0, 0), 0x10, 2, 0, 1);
        packsTo(Words.desk(0, 5, 0, 0), 0x10, 4, 0, 0, 1, 5, 0, 1);
        // 256 groups that are all 0 are the most that a MESSAGE has behind one that is not: 255 are left out.
        packsTo(sized(4, 64, 64, 64, 64), 0x11, 3, 64, 0x11, 64, 64, 0x01, 64, 0, 255);
        SegmentDesk less = sized(4, 64, 64, 64, 64);
        less.word(3, 63, 1);
        packsTo(less, 0x11, 3, 64, 0x11, 64, 64, 0x01, 64, 0, 254, 1, 1);
        // A run goes on over the numbers in front and the SEGMENTS.
        packsTo(sized(4, 64, 0, 0, 0), 0x11, 3, 64, 0, 65);
    }

    private static void fullRuns() {
        packsTo(Words.desk(FULL, FULL), 0x10, 2, 255, 8, 7, 6, 5, 4, 3, 2, 1, 1, 8, 7, 6, 5, 4, 3, 2, 1);
        packsTo(Words.desk(FULL, 0), 0x10, 2, 255, 8, 7, 6, 5, 4, 3, 2, 1, 0, 0, 0);
        packsTo(Words.desk(FULL, 0, FULL), 0x10, 3, 255, 8, 7, 6, 5, 4, 3, 2, 1, 0, 0, 0,
                255, 8, 7, 6, 5, 4, 3, 2, 1, 0);
        // The longest run that 1500 octets have room for, over three SEGMENTS.
        SegmentDesk x = sized(3, 64, 64, 58, 0);
        for (int k = 0; k < 186; k++) {
            x.word(k / 64, k % 64, FULL);
        }
        Check.is(3 + 3 + 10 + 185 * 8, () -> x.pack());
        Check.is(255, () -> x.octet(6));
        Check.is(185, () -> x.octet(15));
        Check.is(8, () -> x.octet(16));
        Check.is(1, () -> x.octet(1495));
    }

    private static void whatStandsInFullRuns() {
        packsTo(Words.desk(FULL, SEVEN), 0x10, 2, 255, 8, 7, 6, 5, 4, 3, 2, 1, 1, 8, 7, 6, 0, 4, 3, 2, 1);
        packsTo(Words.desk(FULL, SIX), 0x10, 2, 255, 8, 7, 6, 5, 4, 3, 2, 1, 0, 0x77, 8, 7, 6, 4, 3, 2);
        packsTo(Words.desk(FULL, SIX, FULL), 0x10, 3, 255, 8, 7, 6, 5, 4, 3, 2, 1, 0, 0x77, 8, 7, 6, 4, 3, 2,
                255, 8, 7, 6, 5, 4, 3, 2, 1, 0);
        packsTo(Words.desk(SEVEN, FULL), 0x10, 2, 0xF7, 8, 7, 6, 4, 3, 2, 1, 255, 8, 7, 6, 5, 4, 3, 2, 1, 0);
        for (int k = 0; k < 8; k++) {
            long one = FULL & ~(255L << 8 * k);
            SegmentDesk x = Words.desk(FULL, one, one, SIX);
            Check.is(2 + 10 + 16 + 7, () -> x.pack());
            Check.is(2, () -> x.octet(11));
            int hole = k;
            Check.is(0, () -> x.octet(12 + hole));
        }
    }

    private static void packed() {
        for (Scenes.Scene scene : Scenes.ALL) {
            SegmentDesk x = scene.make();
            int length = x.pack();
            Check.is(length, () -> x.count(1));
            SegmentDesk same = scene.make();
            for (int what : new int[] {0, 2, 3, 4, 5, 6, 7, 8}) {
                Check.is(same.count(what), () -> x.count(what));
            }
            for (int c = 0; c < 16; c++) {
                int cursor = c;
                Check.is(same.look(c, 3), () -> x.look(cursor, 3));
            }
            Check.is(length, () -> x.pack());
        }
        // What was there before is gone.
        SegmentDesk x = Words.desk(5);
        Words.feed(x, 1, 2, 3, 4, 5, 6, 7);
        packsTo(x, 0x10, 1, 0x01, 5);
        x.word(0, 0, 0);
        packsTo(x, 0x10, 1, 0, 0);
        x.feed(9, 1);
        Words.octetsAre(x, 0x10, 1, 0, 0, 9);
        // Nor does anything of a longer MESSAGE come into a shorter one, whatever was packed or taken before.
        SegmentDesk shorter = Words.desk(FULL, FULL, FULL, FULL);
        shorter.pack();
        shorter.segment(1, 2, 0, 0, 0);
        Words.set(shorter, 0, FULL, FULL);
        packsTo(shorter, 0x10, 2, 255, 8, 7, 6, 5, 4, 3, 2, 1, 1, 8, 7, 6, 5, 4, 3, 2, 1);
        shorter.segment(1, 5, 0, 0, 0);
        shorter.pack();
        shorter.take();
        shorter.segment(1, 2, 0, 0, 0);
        packsTo(shorter, 0x10, 2, 0, 1);
        shorter.word(0, 1, FULL);
        packsTo(shorter, 0x10, 2, 0, 0, 255, 8, 7, 6, 5, 4, 3, 2, 1, 0);
    }

    /** 6 octets of numbers in front, 10 for the first full WORD, 8 for each other one: 186 of them make 1496. */
    private static SegmentDesk dear(long last) {
        SegmentDesk x = sized(3, 64, 64, 64, 0);
        for (int k = 0; k < 186; k++) {
            x.word(k / 64, k % 64, -1);
        }
        x.word(2, 58, last);
        x.word(2, 59, 0);
        Words.feed(x, 1, 2, 3);
        return x;
    }

    private static void packNoRoom() {
        // Behind that a WORD of one octet takes 2, and the rest that is 0 takes 2.
        SegmentDesk just = dear(7);
        Check.is(1500, () -> just.pack());
        Check.is(1500, () -> just.count(1));
        Check.is(0, () -> just.octet(1498));
        Check.is(4, () -> just.octet(1499));
        Refused.noRoom(() -> dear(0x0707), x -> x.pack());
        Refused.noRoom(() -> dear(-1), x -> x.pack());
        SegmentDesk over = dear(0x0707);
        Check.noRoom(() -> over.pack());
        Words.octetsAre(over, 1, 2, 3);
        Check.noRoom(() -> over.pack());
        Check.is(4, () -> over.feed(4, 1));
        Words.octetsAre(over, 1, 2, 3, 4);
        // Those from before may be packed ones.
        SegmentDesk packed = dear(0x0707);
        packed.segment(1, 1, 0, 0, 0);
        packed.word(0, 0, 5);
        packsTo(packed, 0x10, 1, 0x01, 5);
        packed.segment(3, 64, 64, 64, 0);
        for (int k = 0; k < 192; k++) {
            packed.word(k / 64, k % 64, -1);
        }
        Check.noRoom(() -> packed.pack());
        Words.octetsAre(packed, 0x10, 1, 0x01, 5);
        Check.noRoom(() -> packed.pack());
        Words.octetsAre(packed, 0x10, 1, 0x01, 5);
    }

    private static void octetsThere() {
        SegmentDesk x = new SegmentDesk();
        Words.feed(x, 0, 1, 127, 128, 255);
        Words.octetsAre(x, 0, 1, 127, 128, 255);
        SegmentDesk full = Scenes.crowded();
        Check.is(0x10, () -> full.octet(0));
        Check.is(0x08, () -> full.octet(4));
        Check.is((int) (0x0102030405060708L * 187 >>> 56), () -> full.octet(1499));
    }

    private static void badOctets() {
        Refused.bad(SegmentDesk::new, x -> x.octet(0));
        for (int k : new int[] {4, 5, -1, 1499, 1500, MIN, MAX}) {
            Refused.bad(Scenes::reading, x -> x.octet(k));
        }
        for (int k : new int[] {-1, 1500, 1501, MIN, MAX}) {
            Refused.bad(Scenes::crowded, x -> x.octet(k));
        }
    }

    private static void fed() {
        for (int n = 1; n <= 8; n++) {
            int length = n;
            SegmentDesk x = new SegmentDesk();
            x.feed(9, 1);
            Check.is(1 + n, () -> x.feed(0xF8F7F6F5F4F3F2F1L, length));
            int[] due = new int[1 + n];
            due[0] = 9;
            for (int k = 1; k <= n; k++) {
                due[k] = 0xF0 + k;
            }
            Words.octetsAre(x, due);
        }
        SegmentDesk x = new SegmentDesk();
        Check.is(8, () -> x.feed(0, 8));
        Check.is(9, () -> x.feed(-1, 1));
        Words.octetsAre(x, 0, 0, 0, 0, 0, 0, 0, 0, 255);
    }

    private static void badFeeds() {
        for (int n : new int[] {0, 9, -1, MIN, MAX}) {
            Refused.badEverywhere(x -> x.feed(5, n));
        }
    }

    private static SegmentDesk fedTo(int count) {
        SegmentDesk x = new SegmentDesk();
        for (int k = 0; k < count / 8; k++) {
            x.feed(0x0102030405060708L, 8);
        }
        if (count % 8 > 0) {
            x.feed(0x0102030405060708L, count % 8);
        }
        return x;
    }

    private static void feedNoRoom() {
        for (int n = 1; n <= 8; n++) {
            int length = n;
            SegmentDesk x = fedTo(1500 - n);
            Check.is(1500, () -> x.feed(-1, length));
            Check.is(255, () -> x.octet(1499));
            Refused.noRoom(() -> fedTo(1501 - length), y -> y.feed(-1, length));
            Refused.noRoom(Scenes::crowded, y -> y.feed(-1, length));
        }
    }

    private static void dropped() {
        int[] due = {0, 4, Scenes.building().count(1), 1500, 0};
        for (int k = 0; k < due.length; k++) {
            int count = due[k];
            SegmentDesk x = Scenes.ALL[k].make();
            Check.is(count, () -> x.drop());
            Check.is(0, () -> x.count(1));
            Check.bad(() -> x.octet(0));
            Check.is(0, () -> x.drop());
            Check.is(2, () -> x.feed(0x0605, 2));
            Words.octetsAre(x, 5, 6);
            SegmentDesk same = Scenes.ALL[k].make();
            for (int what : new int[] {0, 2, 3, 4, 5, 6, 7, 8}) {
                Check.is(same.count(what), () -> x.count(what));
            }
        }
    }

    private static SegmentDesk fedWith(int... octets) {
        SegmentDesk x = Scenes.building();
        x.drop();
        Words.feed(x, octets);
        return x;
    }

    private static SegmentDesk takes(int segments, int... octets) {
        SegmentDesk x = fedWith(octets);
        Check.is(segments, () -> x.take());
        Check.is(segments, () -> x.count(0));
        return x;
    }

    private static void malformed(int... octets) {
        Refused.malformed(() -> fedWith(octets), x -> x.take());
    }

    private static void taken() {
        Words.are(takes(1, 0, 0), 0);
        Words.are(takes(1, 0x10, 1, 0x84, 0xFF, 0x80), 0, 0x8000000000FF0000L);
        Words.are(takes(1, 0x10, 3, 0, 2), 0, 0, 0, 0);
        Words.are(takes(1, 0x10, 2, 255, 8, 7, 6, 5, 4, 3, 2, 1, 1, 0, 9, 0, 0, 0, 0, 0, 0), 0, FULL, 0x0900L);
        Words.are(takes(1, 0x10, 64, 0, 63), 0, new long[64]);
        SegmentDesk three = takes(3, 0x11, 2, 1, 0x10, 2, 0x41, 1, 2, 0x01, 3, 0x02, 0xFF);
        Words.are(three, 0, 0x0002000000000001L);
        Words.are(three, 1);
        Words.are(three, 2, 3, 0xFF00L);
        SegmentDesk four = takes(4, 0x11, 3, 64, 0x11, 64, 64, 0x01, 64, 0, 255);
        for (int s = 0; s < 4; s++) {
            int segment = s;
            Check.is(64, () -> four.count(4 + segment));
        }
        Check.is(0, () -> four.at(3, 63));
        // However it was packed: octets 0 behind a TAG, runs of none, runs that could be longer.
        Words.are(takes(1, 0x11, 0, 1, 0x01, 0), 0, 0);
        Words.are(takes(1, 0x10, 3, 0, 0, 0, 0, 255, 0, 0, 0, 0, 0, 0, 0, 0, 0), 0, 0, 0, 0);
        Words.are(takes(1, 0xFF, 0, 0, 0, 0, 1, 0, 0, 0, 1, 8, 7, 0, 0, 0, 0, 0, 0), 0, 0x0708);
        // A run of 0 takes the numbers in front along.
        Words.are(takes(1, 0, 0), 0);
        SegmentDesk eight = takes(4, 0x01, 3, 0, 1);
        Words.are(eight, 3);
    }

    private static void stateWhenTaken() {
        SegmentDesk x = fedWith(0x11, 1, 1, 0x01, 1, 0, 1);
        int allowance = x.count(2);
        Check.is(2, () -> x.take());
        ReadingSentences.countsAre(x, 2, 7, allowance, 0, 1, 1, 0, 0, 0);
        ReadingSentences.allAtNothing(x);
        Check.bad(() -> x.struct(0, -1, 0, 0, 0));
        SegmentDesk reading = Scenes.reading();
        Check.is(1, () -> reading.take());
        ReadingSentences.allAtNothing(reading);
        Words.are(reading, 0, 5);
        Check.is(0, () -> reading.count(5));
        Check.bad(() -> reading.at(1, 0));
        // Nothing of a MESSAGE before shows behind the new one's WORDS.
        reading.begin(9);
        reading.struct(0, -1, 0, 8, 0);
        Words.are(reading, 0, Words.struct(0, 8, 0), 0, 0, 0, 0, 0, 0, 0, 0);
    }

    private static void octetsStay() {
        SegmentDesk x = takes(1, 0x10, 1, 0x01, 5);
        Words.octetsAre(x, 0x10, 1, 0x01, 5);
        x.segment(1, 0, 0, 0, 0);
        Check.is(1, () -> x.take());
        Words.are(x, 0, 5);
        Check.is(4, () -> x.drop());
        Words.are(x, 0, 5);
    }

    private static void endsWithin() {
        // Of each of these no octet may be missing.
        int[][] whole = {{0x10, 1, 0x84, 0xFF, 0x80}, {0x10, 3, 0, 2}, {0, 0},
            {0x10, 2, 255, 8, 7, 6, 5, 4, 3, 2, 1, 1, 0, 9, 0, 0, 0, 0, 0, 0}, {0x11, 1, 1, 0x01, 1, 0, 1}};
        for (int[] octets : whole) {
            SegmentDesk x = fedWith(octets);
            Check.fine(() -> x.take());
            for (int length = 0; length < octets.length; length++) {
                malformed(java.util.Arrays.copyOf(octets, length));
            }
        }
        // Within a TAG's octets, between a TAG 0 or 255 and its number, and within a run.
        malformed(0x10, 1, 0, 0, 0xFF);
        malformed(0x10, 1, 255, 8, 7, 6, 5, 4, 3, 2, 1);
        malformed(0x10, 1, 255, 8, 7, 6, 5, 4, 3, 2, 1, 1);
        malformed(0x10, 1, 0);
        // A run of 255 that the octets have no room for.
        Refused.malformed(() -> {
            SegmentDesk x = fedWith(0x10, 64, 255, 8, 7, 6, 5, 4, 3, 2, 1, 255);
            for (int k = 0; k < 186; k++) {
                x.feed(FULL, 8);
            }
            return x;
        }, x -> x.take());
    }

    private static void noNumbers() {
        malformed();
        // Two or three SEGMENTS need two groups in front, four need three.
        malformed(0x01, 1);
        malformed(0x01, 2);
        malformed(0x01, 3, 0, 0);
        malformed(0x11, 1, 64);
        takes(2, 0x01, 1, 0, 0);
        takes(3, 0x01, 2, 0, 0);
        takes(4, 0x01, 3, 0, 1);
    }

    private static void tooManySegments() {
        takes(4, 0x01, 3, 0, 1);
        malformed(0x01, 4, 0, 1);
        malformed(0x01, 4, 0, 2);
        malformed(0x01, 5, 0, 2);
        malformed(0x01, 255, 0, 127);
        for (int octet = 1; octet < 4; octet++) {
            // A number whose lowest octet is 3, and a higher one is not 0.
            malformed(0x01 | 1 << octet, 3, 1, 0, 1);
            malformed(1 << octet, 1);
        }
        malformed(0x0F, 255, 255, 255, 255);
        malformed(0x08, 0x80);
    }

    private static void tooManyWords() {
        takes(1, 0x10, 64, 0, 63);
        malformed(0x10, 65, 0, 64);
        malformed(0x10, 255, 0, 254);
        for (int octet = 5; octet < 8; octet++) {
            malformed(0x10 | 1 << octet, 1, 1, 0, 0);
            malformed(1 << octet, 1);
            malformed(1 << octet, 0x80);
        }
        malformed(0xF0, 255, 255, 255, 255);
        takes(2, 0x01, 1, 0x01, 64, 0, 63);
        malformed(0x01, 1, 0x01, 65, 0, 64);
        takes(3, 0x01, 2, 0x10, 64, 0, 63);
        malformed(0x01, 2, 0x10, 65, 0, 64);
        takes(4, 0x01, 3, 0, 0, 0x01, 64, 0, 63);
        malformed(0x01, 3, 0, 0, 0x01, 65, 0, 64);
        // 63 and 65 are as many groups as 64 and 64.
        malformed(0x11, 1, 63, 0x01, 65, 0, 127);
    }

    private static void otherGroups() {
        takes(1, 0x10, 2, 0, 1);
        malformed(0x10, 2);
        malformed(0x10, 2, 0, 0);
        malformed(0x10, 2, 0, 2);
        malformed(0, 1);
        malformed(0, 255);
        takes(2, 0x11, 1, 1, 0x01, 1, 0, 1);
        malformed(0x11, 1, 1, 0x01, 1, 0, 0);
        malformed(0x11, 1, 1, 0x01, 1, 0, 2);
        malformed(0x11, 3, 64, 0x11, 64, 64, 0x01, 64, 0, 254);
        malformed(0x11, 3, 64, 0x11, 64, 64, 0x01, 64, 0, 255, 0, 0);
        malformed(0x11, 3, 64, 0x11, 64, 64, 0x01, 64, 0, 255, 0x01, 1);
        // As many groups as octets can say.
        Refused.malformed(() -> {
            SegmentDesk x = fedWith(0x10, 64);
            for (int k = 0; k < 187; k++) {
                x.feed(0xFF00FF00FF00FF00L, k < 186 ? 8 : 2);
            }
            return x;
        }, x -> x.take());
    }

    private static void fourOctets() {
        SegmentDesk two = takes(2, 0x11, 1, 1, 0xF1, 1, 7, 7, 7, 7, 0, 1);
        Words.are(two, 0, 0);
        Words.are(two, 1, 0);
        takes(2, 0x01, 1, 0xF0, 255, 255, 255, 255);
        takes(4, 0x01, 3, 0, 0, 0xF0, 255, 255, 255, 255);
        takes(4, 0x01, 3, 0, 0, 0x10, 65);
        // Where there are none, what stands there is a number.
        malformed(0x01, 2, 0x10, 65);
    }
}

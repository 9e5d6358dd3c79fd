/** Terms: what a WORD and a POINTER are, and what FOLLOWING one does. */
final class PointerSentences {
    private static final int TOP = 0x1FFFFFFF;

    private PointerSentences() {
    }

    static void all() {
        Sentences.in("Terms");
        words();
        near();
        far();
        following();
        charging();
        fields();
    }

    private static void words() {
        Sentences.holds("A WORD has 64 bits, bit 0 the lowest.", PointerSentences::wordsHaveBits);
        Sentences.holds("A MESSAGE has SEGMENTS 0.. (4 at most; at first one without WORDS) of up to 64 WORDS.",
                PointerSentences::mostSegments);
        Sentences.holds("A POINTER is a WORD: 0: NOTHING.", PointerSentences::onlyZeroIsNothing);
    }

    private static void near() {
        Sentences.holds("Bits 0, 1 are 0: a STRUCT: bits 2 to 31, with sign, OFFSET: it begins OFFSET WORDS behind "
                + "the WORD behind the POINTER;", PointerSentences::structOffsets);
        Sentences.holds("bits 32 to 47 its DATA (how many WORDS), 48 to 63 its POINTERS (WORDS behind the DATA).",
                PointerSentences::dataAndPointers);
        Sentences.holds("1: a LIST: OFFSET likewise;", PointerSentences::listOffsets);
        Sentences.holds("bits 32 to 34 its CODE, 35 to 63 its COUNT.", PointerSentences::codesAndCounts);
        Sentences.holds("CODE 0 to 5: elements of 0, 1, 8, 16, 32, 64 bits, one behind the other from bit 0 of its "
                + "first WORD on,", PointerSentences::elementsOfBits);
        Sentences.holds("6: of POINTERS;", PointerSentences::elementsThatArePointers);
        Sentences.holds("7: of STRUCTS: COUNT is how many WORDS they have in all, in front of these stands a TAG, "
                + "like a POINTER to a STRUCT, whose OFFSET is how many STRUCTS there are, with the DATA and POINTERS "
                + "of each;", PointerSentences::elementsThatAreStructs);
        Sentences.holds("OFFSET of the LIST leads to the TAG.", PointerSentences::offsetToTag);
    }

    private static void far() {
        Sentences.holds("2: FAR: bit 2 DOUBLE, bits 3 to 31 (without sign) a place, 32 to 63 a SEGMENT.",
                PointerSentences::farParts);
        Sentences.holds("Not DOUBLE: there stands a POINTER to a STRUCT or LIST, with the OFFSET from there.",
                PointerSentences::farToPad);
        Sentences.holds("DOUBLE: there stand a FAR one, not DOUBLE, to where the STRUCT or LIST begins, and a WORD "
                + "like a POINTER to it with OFFSET 0 (0: a STRUCT without any WORDS).", PointerSentences::doubleFar);
        Sentences.holds("3: a HANDLE (for nothing here).", PointerSentences::handles);
        Sentences.holds("READING: CURSORS 0..15 stand at NOTHING (at first), a STRUCT or a LIST, with a DEPTH.",
                PointerSentences::cursors);
    }

    private static void following() {
        Sentences.holds("FOLLOWING a POINTER with a DEPTH: NOTHING is never MALFORMED;",
                PointerSentences::nothingIsNeverMalformed);
        Sentences.holds("others are if: it is a HANDLE;", PointerSentences::handlesAreMalformed);
        Sentences.holds("it is FAR and its place,", PointerSentences::farPlaceInNoSegment);
        Sentences.holds("or that of the second WORD, is in no SEGMENT", PointerSentences::secondWordInNoSegment);
        Sentences.holds("(that to which the second FAR one leads: its SEGMENT is none),",
                PointerSentences::secondFarSegment);
        Sentences.holds("or does not hold what is said there (NOTHING, too, but for the second WORD);",
                PointerSentences::farHoldsSomethingElse);
        Sentences.holds("a STRUCT, or a LIST (CODE 7: with its TAG), is not all within its SEGMENT",
                PointerSentences::notAllWithin);
        Sentences.holds("(a LIST without WORDS: its place is from 0 up to the SEGMENT's end; so is a STRUCT without "
                + "any);", PointerSentences::withoutWords);
        Sentences.holds("the TAG is not like a POINTER to a STRUCT,", PointerSentences::tagOfSomethingElse);
        Sentences.holds("or has an OFFSET below 0,", PointerSentences::tagBelowZero);
        Sentences.holds("or its STRUCTS have more WORDS than COUNT;", PointerSentences::tagOfTooMuch);
        Sentences.holds("DEPTH is 0;", PointerSentences::depthZero);
        Sentences.holds("or the CHARGE is more than what is left of the ALLOWANCE.", PointerSentences::tooDear);
    }

    private static void charging() {
        Sentences.holds("The CHARGE: the WORDS of a STRUCT;", PointerSentences::chargeOfStructs);
        Sentences.holds("those of a LIST", PointerSentences::chargeOfLists);
        Sentences.holds("(CODE 0: one for each element;", PointerSentences::chargeOfNoBits);
        Sentences.holds("CODE 7: COUNT and 1,", PointerSentences::chargeOfStructLists);
        Sentences.holds("and, if its STRUCTS have no WORDS, one for each of these besides).",
                PointerSentences::chargeOfEmptyStructs);
        Sentences.holds("It is taken from the ALLOWANCE.", PointerSentences::chargeIsTaken);
        Sentences.holds("What it leads to has the DEPTH less 1.", PointerSentences::depthLessOne);
    }

    private static void fields() {
        Sentences.holds("FIELDS of a STRUCT: of 1, 8, 16, 32, 64 bits by numbers: the n-th (0 first) such piece of "
                + "its DATA;", PointerSentences::pieces);
        Sentences.holds("beyond its DATA 0.", PointerSentences::beyondData);
        Sentences.holds("An element of a LIST is a STRUCT: CODE 7: that;", PointerSentences::elementOfStructs);
        Sentences.holds("CODE 2 to 5: with as many bits of DATA as it has, and no POINTERS;",
                PointerSentences::elementOfBits);
        Sentences.holds("6: with one POINTER;", PointerSentences::elementOfPointers);
        Sentences.holds("0: with nothing;", PointerSentences::elementOfNothing);
        Sentences.holds("CODE 1: MALFORMED.", PointerSentences::elementOfSingleBits);
    }

    static void cursorIs(SegmentDesk x, int c, int... due) {
        for (int what = 0; what < 8; what++) {
            int w = what;
            Check.is(due[w], () -> x.look(c, w));
        }
    }

    private static long[] sized(int length, long first) {
        long[] words = new long[length];
        words[0] = first;
        return words;
    }

    /** The root, FOLLOWED with DEPTH 1, is at this kind of thing there. */
    private static void leads(int kind, int segment, int place, long[]... segments) {
        SegmentDesk x = Scenes.placed(segments);
        Check.is(kind, () -> x.root(5, 1));
        Check.is(kind, () -> x.look(5, 0));
        Check.is(segment, () -> x.look(5, 2));
        Check.is(place, () -> x.look(5, 3));
    }

    private static void isMalformed(long[]... segments) {
        Refused.malformed(() -> Scenes.placed(segments), x -> x.root(5, 64));
    }

    private static void wordsHaveBits() {
        for (long w : new long[] {0, 1, -1, Long.MIN_VALUE, Long.MAX_VALUE, 0x0123456789ABCDEFL}) {
            SegmentDesk x = Words.desk(7);
            Check.is(7, () -> x.word(0, 0, w));
            Check.is(w, () -> x.at(0, 0));
        }
        for (int bit = 0; bit < 64; bit++) {
            SegmentDesk x = Words.desk(Words.struct(0, 1, 0), 1L << bit);
            x.root(0, 1);
            for (int n = 0; n < 64; n++) {
                int field = n;
                Check.is(n == bit ? 1 : 0, () -> x.number(0, 1, field, 0));
            }
        }
    }

    private static void mostSegments() {
        SegmentDesk x = new SegmentDesk();
        Check.is(1, () -> x.count(0));
        Check.is(0, () -> x.count(4));
        x.segment(4, 64, 64, 64, 64);
        Check.is(4, () -> x.count(0));
        for (int s = 0; s < 4; s++) {
            int segment = s;
            Check.is(64, () -> x.count(4 + segment));
            Check.is(0, () -> x.word(segment, 63, 100 + segment));
            Check.is(100 + s, () -> x.at(segment, 63));
            Check.bad(() -> x.at(segment, 64));
        }
        Check.bad(() -> x.at(4, 0));
        Check.bad(() -> x.segment(5, 1, 1, 1, 1));
        Check.bad(() -> x.segment(4, 64, 64, 64, 65));
    }

    private static void onlyZeroIsNothing() {
        SegmentDesk x = Words.desk(0);
        Check.is(SegmentDesk.NOTHING, () -> x.root(5, 1));
        leads(SegmentDesk.STRUCT, 0, 2, Scenes.w(4, 0));
        leads(SegmentDesk.STRUCT, 0, 1, Scenes.w(1L << 32, 0));
        leads(SegmentDesk.STRUCT, 0, 1, Scenes.w(1L << 48, 0));
        leads(SegmentDesk.LIST, 0, 1, Scenes.w(1));
        Refused.malformed(() -> Scenes.placed(Scenes.w(2)), y -> y.root(5, 1));
    }

    private static void structOffsets() {
        for (int offset = -1; offset <= 62; offset++) {
            leads(SegmentDesk.STRUCT, 0, 1 + offset, sized(64, Words.struct(offset, 1, 0)));
        }
        isMalformed(sized(64, Words.struct(-2, 1, 0)));
        isMalformed(sized(64, Words.struct(63, 1, 0)));
        isMalformed(sized(64, Words.struct(-65, 1, 0)));
        isMalformed(sized(64, Words.struct(TOP, 1, 0)));
        isMalformed(sized(64, Words.struct(-TOP - 1, 1, 0)));
        // The highest bit alone is not taken: that is OFFSET -2 to the power of 29, not 0.
        isMalformed(Scenes.w(1L << 31 | 1L << 32, 0));
        for (int bit = 8; bit <= 31; bit++) {
            isMalformed(sized(64, 1L << bit | 1L << 32));
        }
        fromAnotherPlace();
    }

    /** From POINTER 0 at WORD 2 of SEGMENT 1. */
    private static void fromAnotherPlace() {
        for (int offset = -3; offset <= 1; offset++) {
            SegmentDesk x = fromSecondWord(Words.struct(offset, 1, 0));
            int place = 3 + offset;
            Check.is(SegmentDesk.STRUCT, () -> x.follow(1, 0, 0));
            Check.is(1, () -> x.look(1, 2));
            Check.is(place, () -> x.look(1, 3));
        }
        Refused.malformed(() -> fromSecondWord(Words.struct(-4, 1, 0)), x -> x.follow(1, 0, 0));
        Refused.malformed(() -> fromSecondWord(Words.struct(2, 1, 0)), x -> x.follow(1, 0, 0));
    }

    private static SegmentDesk fromSecondWord(long pointer) {
        SegmentDesk x = Scenes.placed(sized(9, Words.far(1, 0)), Scenes.w(Words.struct(0, 1, 2), 7, pointer, 0, 8));
        x.root(0, 9);
        return x;
    }

    private static void dataAndPointers() {
        int[][] fit = {{63, 0}, {0, 63}, {1, 62}, {62, 1}, {32, 31}, {1, 0}, {0, 1}};
        for (int[] size : fit) {
            long[] words = sized(64, Words.struct(0, size[0], size[1]));
            words[63] = Words.struct(-1, 0, 0);
            SegmentDesk x = Scenes.placed(words);
            Check.is(SegmentDesk.STRUCT, () -> x.root(0, 9));
            Check.is(64 * size[0], () -> x.look(0, 4));
            Check.is(size[1], () -> x.look(0, 5));
            int last = size[1] - 1;
            if (size[0] + size[1] == 63 && last >= 0) {
                Check.is(SegmentDesk.STRUCT, () -> x.follow(1, 0, last));
                Check.is(63, () -> x.look(1, 3));
                Check.is(SegmentDesk.NOTHING, () -> x.follow(1, 0, last + 1));
            }
        }
        int[][] over = {{64, 0}, {0, 64}, {63, 1}, {1, 63}, {65535, 0}, {0, 65535}, {65535, 65535}, {32768, 0},
            {0, 32768}, {32768, 32768}};
        for (int[] size : over) {
            isMalformed(sized(64, Words.struct(0, size[0], size[1])));
        }
    }

    private static void listOffsets() {
        for (int offset = -1; offset <= 62; offset++) {
            leads(SegmentDesk.LIST, 0, 1 + offset, sized(64, Words.list(offset, 5, 1)));
        }
        isMalformed(sized(64, Words.list(-2, 5, 1)));
        isMalformed(sized(64, Words.list(63, 5, 1)));
        isMalformed(sized(64, Words.list(TOP, 5, 1)));
        isMalformed(sized(64, Words.list(-TOP - 1, 5, 1)));
        for (int bit = 8; bit <= 31; bit++) {
            isMalformed(sized(64, 1 | 1L << bit | 5L << 32 | 1L << 35));
        }
    }

    private static void codesAndCounts() {
        for (int code = 0; code < 7; code++) {
            for (int count : new int[] {0, 1, 2, 63}) {
                SegmentDesk x = Scenes.placed(sized(64, Words.list(0, code, count)));
                Check.is(SegmentDesk.LIST, () -> x.root(5, 1));
                cursorIs(x, 5, 2, 0, 0, 1, 0, 0, count, code);
            }
            int c = code;
            isMalformed(sized(64, Words.list(0, c, TOP)));
            isMalformed(sized(64, Words.list(0, c, 1 << 28)));
        }
        SegmentDesk many = Scenes.placed(Scenes.w(Words.list(0, 0, 100000)));
        Check.is(SegmentDesk.LIST, () -> many.root(5, 1));
        Check.is(100000, () -> many.look(5, 6));
        SegmentDesk structs = Scenes.placed(Scenes.w(Words.list(0, 7, 1), Words.struct(1, 1, 0), 0));
        Check.is(SegmentDesk.LIST, () -> structs.root(5, 1));
        Check.is(7, () -> structs.look(5, 7));
    }

    private static void elementsOfBits() {
        long first = 0xF7E6D5C4B3A29180L;
        long second = 0x0123456789ABCDEFL;
        int[] bits = {0, 1, 8, 16, 32, 64};
        for (int code = 1; code <= 5; code++) {
            int size = bits[code];
            SegmentDesk x = Scenes.placed(Scenes.w(Words.list(1, code, 128 / size), 7, first, second, 9));
            x.root(5, 1);
            for (int n = 0; n < 128 / size; n++) {
                int at = n;
                long word = n * size < 64 ? first : second;
                long up = word << 64 - size - n * size % 64;
                Check.is(size == 1 ? up >>> 63 : up >> 64 - size, () -> x.item(5, at));
            }
            Check.bad(() -> x.item(5, 128 / size));
        }
        SegmentDesk none = Scenes.placed(Scenes.w(Words.list(-1, 0, 3)));
        none.root(5, 1);
        Check.is(0, () -> none.item(5, 2));
        Check.bad(() -> none.item(5, 3));
    }

    private static void elementsThatArePointers() {
        SegmentDesk x = Scenes.placed(Scenes.w(Words.list(1, 6, 3), 5, Words.struct(-2, 1, 0), 0,
                Words.list(-1, 2, 8)));
        x.root(0, 9);
        Check.is(SegmentDesk.STRUCT, () -> x.follow(1, 0, 0));
        Check.is(1, () -> x.look(1, 3));
        Check.is(SegmentDesk.NOTHING, () -> x.follow(1, 0, 1));
        Check.is(SegmentDesk.LIST, () -> x.follow(1, 0, 2));
        Check.is(4, () -> x.look(1, 3));
        Check.bad(() -> x.follow(1, 0, 3));
    }

    private static void elementsThatAreStructs() {
        SegmentDesk x = Scenes.placed(Scenes.w(Words.list(0, 7, 7), Words.struct(2, 2, 1), 1, 2, 0, 4, 5,
                Words.struct(-1, 0, 0), 99));
        Check.is(SegmentDesk.LIST, () -> x.root(0, 9));
        cursorIs(x, 0, 2, 8, 0, 1, 0, 0, 2, 7);
        Check.is(1, () -> x.element(1, 0, 1));
        cursorIs(x, 1, 1, 8, 0, 5, 128, 1, 0, 0);
        Check.is(4, () -> x.number(1, 64, 0, 0));
        Check.is(5, () -> x.number(1, 64, 1, 0));
        Check.is(1, () -> x.follow(2, 1, 0));
        Check.is(7, () -> x.look(2, 3));
        Check.bad(() -> x.element(1, 0, 2));
        // COUNT is not how many there are: 63 WORDS of one STRUCT each, then none at all.
        SegmentDesk most = Scenes.placed(sized(64, Words.list(0, 7, 62)));
        most.word(0, 1, Words.struct(62, 1, 0));
        Check.is(SegmentDesk.LIST, () -> most.root(0, 9));
        Check.is(62, () -> most.look(0, 6));
        most.word(0, 1, Words.struct(0, 1, 0));
        Check.is(SegmentDesk.LIST, () -> most.root(0, 9));
        Check.is(0, () -> most.look(0, 6));
    }

    private static void offsetToTag() {
        leads(SegmentDesk.LIST, 0, 2, Scenes.w(Words.list(1, 7, 1), 3, Words.struct(1, 1, 0), 8));
        SegmentDesk x = Scenes.placed(Scenes.w(Words.list(1, 7, 1), 3, Words.struct(1, 1, 0), 8));
        x.root(0, 9);
        x.element(1, 0, 0);
        Check.is(3, () -> x.look(1, 3));
        Check.is(8, () -> x.number(1, 64, 0, 0));
    }

    private static void farParts() {
        for (int s = 0; s < 4; s++) {
            for (int place : new int[] {1, 62, 63}) {
                long[][] segments = {new long[64], new long[64], new long[64], new long[64]};
                segments[0][0] = Words.far(s, place);
                segments[s][place] = Words.struct(-1, 1, 0);
                leads(SegmentDesk.STRUCT, s, place, segments);
            }
        }
        long[] pads = sized(64, Words.struct(0, 1, 0));
        leads(SegmentDesk.STRUCT, 1, 1, Scenes.w(2 | 1L << 32), pads);
        // Bit 2 makes another one of it.
        isMalformed(Scenes.w(6 | 1L << 32), pads);
        for (int bit = 9; bit <= 31; bit++) {
            isMalformed(Scenes.w(2 | 1L << 32 | 1L << bit), pads);
        }
        for (int bit = 33; bit <= 63; bit++) {
            isMalformed(Scenes.w(2 | 1L << 32 | 1L << bit), pads);
        }
        isMalformed(Scenes.w(0xFFFFFFFAL | 1L << 32), pads);
    }

    private static void farToPad() {
        SegmentDesk x = Scenes.placed(Scenes.w(Words.far(1, 1), 6, 6, 6), Scenes.w(5, Words.struct(1, 1, 0), 0, 77));
        Check.is(SegmentDesk.STRUCT, () -> x.root(0, 1));
        cursorIs(x, 0, 1, 0, 1, 3, 64, 0, 0, 0);
        Check.is(77, () -> x.number(0, 64, 0, 0));
        leads(SegmentDesk.STRUCT, 1, 0, Scenes.w(Words.far(1, 1)), Scenes.w(5, Words.struct(-2, 1, 0)));
        leads(SegmentDesk.LIST, 1, 2, Scenes.w(Words.far(1, 0)), Scenes.w(Words.list(1, 2, 3), 0, 4));
        leads(SegmentDesk.LIST, 0, 1, Scenes.w(Words.far(0, 2), 9, Words.list(-2, 5, 1)));
        isMalformed(Scenes.w(Words.far(1, 1), 6, 6, 6), Scenes.w(5, Words.struct(1, 1, 0), 0));
        isMalformed(Scenes.w(Words.far(1, 0)), Scenes.w(Words.struct(-2, 1, 0)));
    }

    private static void doubleFar() {
        SegmentDesk x = Scenes.placed(Scenes.w(Words.doubleFar(1, 1), 6), Scenes.w(5, Words.far(2, 1),
                Words.struct(0, 1, 1)), Scenes.w(7, 8, 0));
        Check.is(SegmentDesk.STRUCT, () -> x.root(0, 1));
        cursorIs(x, 0, 1, 0, 2, 1, 64, 1, 0, 0);
        Check.is(8, () -> x.number(0, 64, 0, 0));
        leads(SegmentDesk.LIST, 2, 0, Scenes.w(Words.doubleFar(1, 0)), Scenes.w(Words.far(2, 0),
                Words.list(0, 5, 3)), Scenes.w(7, 8, 9));
        leads(SegmentDesk.LIST, 0, 1, Scenes.w(Words.doubleFar(1, 0), Words.struct(1, 1, 0), 4),
                Scenes.w(Words.far(0, 1), Words.list(0, 7, 1)));
        // 0 is a STRUCT without any WORDS; anywhere in a SEGMENT, its end too.
        for (int place = 0; place <= 3; place++) {
            leads(SegmentDesk.STRUCT, 2, place, Scenes.w(Words.doubleFar(1, 0)), Scenes.w(Words.far(2, place), 0),
                    Scenes.w(7, 8, 9));
        }
        isMalformed(Scenes.w(Words.doubleFar(1, 0)), Scenes.w(Words.far(2, 4), 0), Scenes.w(7, 8, 9));
    }

    private static void handles() {
        for (long handle : new long[] {3, 7, -1, 3 | 1L << 32, 0x7FFFFFFFFFFFFFFFL}) {
            isMalformed(sized(64, handle));
        }
    }

    private static void cursors() {
        SegmentDesk x = new SegmentDesk();
        for (int c = 0; c < 16; c++) {
            cursorIs(x, c, 0, 0, 0, 0, 0, 0, 0, 0);
        }
        SegmentDesk y = Words.desk(Words.struct(-1, 1, 0));
        for (int c = 0; c < 16; c++) {
            int cursor = c;
            Check.is(1, () -> y.root(cursor, 1 + cursor));
        }
        for (int c = 0; c < 16; c++) {
            cursorIs(y, c, 1, c, 0, 0, 64, 0, 0, 0);
        }
        Refused.badEverywhere(z -> z.look(-1, 0));
        Refused.badEverywhere(z -> z.look(16, 0));
    }

    private static void nothingIsNeverMalformed() {
        for (int depth : new int[] {0, 1, 64}) {
            SegmentDesk x = Scenes.placed(Scenes.w(0));
            x.allow(0);
            Check.is(SegmentDesk.NOTHING, () -> x.root(5, depth));
            cursorIs(x, 5, 0, 0, 0, 0, 0, 0, 0, 0);
        }
        SegmentDesk x = Scenes.placed(Scenes.w(Words.struct(0, 0, 1), 0));
        x.root(5, 1);
        x.allow(0);
        Check.is(SegmentDesk.NOTHING, () -> x.follow(6, 5, 0));
        Check.is(SegmentDesk.NOTHING, () -> x.follow(6, 5, 1));
    }

    private static void handlesAreMalformed() {
        Refused.malformed(Scenes::reading, x -> x.follow(1, 0, 9));
        SegmentDesk x = Scenes.reading();
        x.word(0, 11, 0);
        Check.is(SegmentDesk.NOTHING, () -> x.follow(1, 0, 9));
    }

    private static void farPlaceInNoSegment() {
        leads(SegmentDesk.STRUCT, 1, 2, Scenes.w(Words.far(1, 2)), Scenes.w(0, 0, Words.struct(-1, 0, 0)));
        isMalformed(Scenes.w(Words.far(1, 3)), Scenes.w(0, 0, Words.struct(-1, 0, 0)));
        isMalformed(Scenes.w(Words.far(1, TOP)), Scenes.w(Words.struct(-1, 0, 0)));
        isMalformed(Scenes.w(Words.far(2, 0)), Scenes.w(Words.struct(-1, 0, 0)));
        isMalformed(Scenes.w(Words.far(4, 0)), Scenes.w(0), Scenes.w(0), Scenes.w(0));
        isMalformed(Scenes.w(Words.far(0xFFFFFFFFL, 0)), Scenes.w(Words.struct(-1, 0, 0)));
        isMalformed(Scenes.w(Words.far(1, 0)), Scenes.w());
        isMalformed(Scenes.w(Words.doubleFar(1, 3)), Scenes.w(0, Words.far(1, 0), 0));
        isMalformed(Scenes.w(Words.doubleFar(2, 0)), Scenes.w(Words.far(1, 0), 0));
        isMalformed(Scenes.w(Words.doubleFar(1, TOP)), Scenes.w(Words.far(1, 0), 0));
    }

    private static void secondWordInNoSegment() {
        leads(SegmentDesk.STRUCT, 1, 0, Scenes.w(Words.doubleFar(1, 1)), Scenes.w(0, Words.far(1, 0), 0));
        isMalformed(Scenes.w(Words.doubleFar(1, 1)), Scenes.w(0, Words.far(1, 0)));
        // What lies behind a SEGMENT's end is no second WORD, though another SEGMENT comes behind it.
        isMalformed(Scenes.w(Words.doubleFar(1, 63)), sized(64, 0), Scenes.w(0, 0));
    }

    private static void secondFarSegment() {
        leads(SegmentDesk.STRUCT, 2, 0, Scenes.w(Words.doubleFar(1, 0)), Scenes.w(Words.far(2, 0), 0), Scenes.w());
        for (long none : new long[] {3, 4, 0x80000000L, 0xFFFFFFFFL}) {
            isMalformed(Scenes.w(Words.doubleFar(1, 0)), Scenes.w(Words.far(none, 0), 0), Scenes.w());
        }
        // It is looked for as FAR ones are; where the thing lies it has to be all within.
        isMalformed(Scenes.w(Words.doubleFar(1, 0)), Scenes.w(Words.far(2, 1), 0), Scenes.w());
        isMalformed(Scenes.w(Words.doubleFar(1, 0)), Scenes.w(Words.far(2, TOP), 0), Scenes.w());
        isMalformed(Scenes.w(Words.doubleFar(1, 0)), Scenes.w(Words.far(2, TOP), Words.struct(0, 1, 0)),
                Scenes.w(4));
    }

    private static void farHoldsSomethingElse() {
        long[] root = Scenes.w(Words.far(1, 0));
        for (long pad : new long[] {0, 2, 3, 7, Words.far(1, 1), Words.far(0, 0), Words.doubleFar(1, 1)}) {
            isMalformed(root, Scenes.w(pad, Words.struct(-1, 0, 0), 0));
        }
        long[] twice = Scenes.w(Words.doubleFar(1, 0));
        for (long first : new long[] {0, 3, Words.struct(0, 1, 0), Words.list(0, 5, 1), Words.doubleFar(1, 0), 6}) {
            isMalformed(twice, Scenes.w(first, Words.struct(0, 1, 0), 0));
            isMalformed(twice, Scenes.w(first, 0, 0));
        }
        for (long second : new long[] {3, Words.far(1, 0), Words.doubleFar(1, 0), Words.struct(1, 1, 0),
            Words.struct(-1, 1, 0), Words.struct(-1, 0, 0), Words.struct(1, 0, 0), Words.list(1, 5, 1),
            Words.list(-1, 0, 1)}) {
            isMalformed(twice, Scenes.w(Words.far(1, 1), second, 0, 0));
        }
        leads(SegmentDesk.STRUCT, 1, 1, twice, Scenes.w(Words.far(1, 1), 0));
    }

    private static void notAllWithin() {
        for (int words = 1; words <= 3; words++) {
            leads(SegmentDesk.STRUCT, 0, 4 - words, sized(4, Words.struct(3 - words, words, 0)));
            isMalformed(sized(4, Words.struct(4 - words, words, 0)));
            leads(SegmentDesk.STRUCT, 0, 4 - words, sized(4, Words.struct(3 - words, 0, words)));
            isMalformed(sized(4, Words.struct(4 - words, 0, words)));
        }
        leads(SegmentDesk.STRUCT, 0, 0, sized(4, Words.struct(-1, 2, 2)));
        isMalformed(sized(4, Words.struct(-1, 2, 3)));
        isMalformed(sized(4, Words.struct(-2, 1, 0)));
        int[] perWord = {0, 64, 8, 4, 2, 1, 1};
        for (int code = 1; code <= 6; code++) {
            int two = 2 * perWord[code];
            leads(SegmentDesk.LIST, 0, 2, sized(4, Words.list(1, code, two)));
            leads(SegmentDesk.LIST, 0, 2, sized(4, Words.list(1, code, two - perWord[code] + 1)));
            isMalformed(sized(4, Words.list(1, code, two + 1)));
            isMalformed(sized(4, Words.list(2, code, two - perWord[code] + 1)));
            isMalformed(sized(4, Words.list(-2, code, 1)));
        }
        leads(SegmentDesk.LIST, 0, 1, Scenes.w(Words.list(0, 7, 2), Words.struct(2, 1, 0), 0, 0));
        isMalformed(Scenes.w(Words.list(0, 7, 2), Words.struct(1, 1, 0), 0));
        isMalformed(Scenes.w(Words.list(0, 7, 0)));
        isMalformed(Scenes.w(Words.list(-2, 7, 0), 0));
        isMalformed(Scenes.w(Words.list(0, 7, TOP), 0, 0));
        // Each in its own SEGMENT, however long the others are.
        isMalformed(sized(64, Words.far(1, 0)), Scenes.w(Words.struct(0, 2, 0), 0), sized(64, 0));
    }

    private static void withoutWords() {
        for (int place = 0; place <= 3; place++) {
            // With OFFSET 0 it would be NOTHING.
            if (place != 1) {
                leads(SegmentDesk.STRUCT, 0, place, sized(3, Words.struct(place - 1, 0, 0)));
            }
            for (int code = 1; code <= 6; code++) {
                leads(SegmentDesk.LIST, 0, place, sized(3, Words.list(place - 1, code, 0)));
            }
            leads(SegmentDesk.LIST, 0, place, sized(3, Words.list(place - 1, 0, 9)));
        }
        for (int place : new int[] {-1, 4}) {
            isMalformed(sized(3, Words.struct(place - 1, 0, 0)));
            for (int code = 0; code <= 6; code++) {
                isMalformed(sized(3, Words.list(place - 1, code, 0)));
            }
            isMalformed(sized(3, Words.list(place - 1, 0, 9)));
        }
    }

    private static void tagOfSomethingElse() {
        for (long tag : new long[] {1, Words.list(1, 1, 0), Words.far(0, 0), Words.doubleFar(0, 0), 3, 7, -1}) {
            isMalformed(Scenes.w(Words.list(0, 7, 1), tag, 0));
        }
        leads(SegmentDesk.LIST, 0, 1, Scenes.w(Words.list(0, 7, 1), 0, 0));
    }

    private static void tagBelowZero() {
        leads(SegmentDesk.LIST, 0, 1, Scenes.w(Words.list(0, 7, 1), Words.struct(0, 1, 0), 0));
        for (int count : new int[] {-1, -2, -TOP - 1}) {
            isMalformed(Scenes.w(Words.list(0, 7, 1), Words.struct(count, 1, 0), 0));
            isMalformed(Scenes.w(Words.list(0, 7, 1), Words.struct(count, 0, 0), 0));
        }
    }

    private static void tagOfTooMuch() {
        long[][] fit = {{2, 1, 1}, {4, 1, 0}, {4, 0, 1}, {1, 3, 1}, {0, 65535, 65535}, {1, 2, 1}};
        for (long[] tag : fit) {
            leads(SegmentDesk.LIST, 0, 1, Scenes.w(Words.list(0, 7, 4),
                    Words.struct((int) tag[0], (int) tag[1], (int) tag[2]), 0, 0, 0, 0, 0));
        }
        long[][] over = {{3, 1, 1}, {5, 1, 0}, {5, 0, 1}, {1, 4, 1}, {1, 65535, 0}, {1, 0, 65535},
            {TOP, 65535, 65535}, {TOP, 1, 0}, {0x10000000, 16, 0}, {0x8000, 65535, 65535}, {0x10000, 32768, 32768}};
        for (long[] tag : over) {
            isMalformed(Scenes.w(Words.list(0, 7, 4),
                    Words.struct((int) tag[0], (int) tag[1], (int) tag[2]), 0, 0, 0, 0, 0));
        }
    }

    private static void depthZero() {
        for (long root : new long[] {Words.struct(-1, 1, 0), Words.struct(-1, 0, 0), Words.list(-1, 0, 0)}) {
            Refused.malformed(() -> Scenes.placed(Scenes.w(root)), x -> x.root(5, 0));
            SegmentDesk x = Scenes.placed(Scenes.w(root));
            Check.fine(() -> x.root(5, 1));
        }
        Refused.malformed(() -> chainAt(2, 2), x -> x.follow(0, 0, 0));
        SegmentDesk x = chainAt(3, 2);
        Check.is(SegmentDesk.STRUCT, () -> x.follow(0, 0, 0));
        Check.is(0, () -> x.look(0, 1));
    }

    /** A STRUCT that leads to itself, FOLLOWED from a DEPTH so many times. */
    private static SegmentDesk chainAt(int depth, int times) {
        SegmentDesk x = Scenes.placed(Scenes.w(Words.struct(-1, 0, 1)));
        x.root(0, depth);
        for (int k = 1; k < times; k++) {
            x.follow(0, 0, 0);
        }
        return x;
    }

    private static void tooDear() {
        dear(3, Scenes.w(Words.struct(0, 1, 2), 0, 0, 0));
        dear(64, sized(64, Words.struct(-1, 64, 0)));
        dear(1, Scenes.w(Words.list(0, 1, 1), 0));
        SegmentDesk free = Scenes.placed(Scenes.w(Words.struct(-1, 0, 0)));
        free.allow(0);
        Check.is(SegmentDesk.STRUCT, () -> free.root(5, 1));
        // Charges that are greater than any ALLOWANCE, or wrap around where a sum is kept too small.
        isMalformed(Scenes.w(Words.list(0, 0, 100001)));
        isMalformed(Scenes.w(Words.list(0, 0, TOP)));
        isMalformed(Scenes.w(Words.list(0, 7, 0), Words.struct(100000, 0, 0)));
        isMalformed(Scenes.w(Words.list(0, 7, 0), Words.struct(TOP, 0, 0)));
    }

    /** Refused with one less, and with just as much nothing is left. */
    private static void dear(int charge, long[]... segments) {
        Refused.malformed(() -> allowed(charge - 1, segments), x -> x.root(5, 64));
        SegmentDesk x = allowed(charge, segments);
        Check.fine(() -> x.root(5, 64));
        Check.is(0, () -> x.count(2));
    }

    private static SegmentDesk allowed(int allowance, long[]... segments) {
        SegmentDesk x = Scenes.placed(segments);
        x.allow(allowance);
        return x;
    }

    private static void charges(int charge, long[]... segments) {
        SegmentDesk x = Scenes.placed(segments);
        Check.fine(() -> x.root(5, 64));
        Check.is(100000 - charge, () -> x.count(2));
        if (charge > 0) {
            dear(charge, segments);
        }
    }

    private static void chargeOfStructs() {
        charges(0, Scenes.w(Words.struct(-1, 0, 0)));
        charges(1, Scenes.w(Words.struct(0, 1, 0), 0));
        charges(1, Scenes.w(Words.struct(0, 0, 1), 0));
        charges(5, sized(6, Words.struct(0, 2, 3)));
        charges(63, sized(64, Words.struct(0, 60, 3)));
        // The pads are no part of it.
        charges(1, Scenes.w(Words.far(1, 0)), Scenes.w(Words.struct(0, 1, 0), 5));
        charges(1, Scenes.w(Words.doubleFar(1, 0)), Scenes.w(Words.far(0, 0), Words.struct(0, 1, 0)));
    }

    private static void chargeOfLists() {
        int[] perWord = {0, 64, 8, 4, 2, 1, 1};
        for (int code = 1; code <= 6; code++) {
            charges(0, sized(4, Words.list(0, code, 0)));
            charges(1, sized(4, Words.list(0, code, 1)));
            charges(1, sized(4, Words.list(0, code, perWord[code])));
            charges(2, sized(4, Words.list(0, code, perWord[code] + 1)));
        }
    }

    private static void chargeOfNoBits() {
        charges(0, Scenes.w(Words.list(0, 0, 0)));
        charges(1, Scenes.w(Words.list(0, 0, 1)));
        charges(700, Scenes.w(Words.list(0, 0, 700)));
        charges(100000, Scenes.w(Words.list(0, 0, 100000)));
    }

    private static void chargeOfStructLists() {
        charges(1, Scenes.w(Words.list(0, 7, 0), 0));
        charges(5, Scenes.w(Words.list(0, 7, 4), Words.struct(2, 1, 1), 0, 0, 0, 0));
        charges(5, Scenes.w(Words.list(0, 7, 4), Words.struct(1, 1, 1), 0, 0, 0, 0));
        charges(5, Scenes.w(Words.list(0, 7, 4), Words.struct(0, 1, 1), 0, 0, 0, 0));
        charges(5, Scenes.w(Words.list(0, 7, 4), Words.struct(3, 0, 1), 0, 0, 0, 0));
        charges(5, Scenes.w(Words.list(0, 7, 4), Words.struct(3, 1, 0), 0, 0, 0, 0));
    }

    private static void chargeOfEmptyStructs() {
        charges(1, Scenes.w(Words.list(0, 7, 0), Words.struct(0, 0, 0)));
        charges(2, Scenes.w(Words.list(0, 7, 0), Words.struct(1, 0, 0)));
        charges(13, Scenes.w(Words.list(0, 7, 2), Words.struct(10, 0, 0), 0, 0));
        charges(100000, Scenes.w(Words.list(0, 7, 0), Words.struct(99999, 0, 0)));
    }

    private static void chargeIsTaken() {
        SegmentDesk x = Scenes.placed(Scenes.w(Words.struct(0, 1, 2), 0, Words.list(1, 5, 1), 0, 0));
        x.root(5, 9);
        Check.is(99997, () -> x.count(2));
        x.root(5, 9);
        Check.is(99994, () -> x.count(2));
        x.follow(6, 5, 0);
        Check.is(99993, () -> x.count(2));
        x.follow(6, 5, 1);
        x.follow(6, 5, 7);
        Check.is(99993, () -> x.count(2));
        x.root(5, 9);
        x.follow(6, 5, 0);
        x.element(7, 6, 0);
        x.item(6, 0);
        x.number(5, 64, 0, 0);
        Check.is(99989, () -> x.count(2));
    }

    private static void depthLessOne() {
        SegmentDesk x = Scenes.placed(Scenes.w(Words.struct(0, 0, 2), Words.list(0, 6, 1), Words.struct(-1, 0, 0)));
        for (int depth : new int[] {1, 2, 64}) {
            Check.is(1, () -> x.root(0, depth));
            Check.is(depth - 1, () -> x.look(0, 1));
        }
        Check.is(2, () -> x.follow(1, 0, 0));
        Check.is(62, () -> x.look(1, 1));
        Check.is(1, () -> x.follow(1, 1, 0));
        Check.is(61, () -> x.look(1, 1));
    }

    private static SegmentDesk ofThreeWords() {
        SegmentDesk x = Scenes.placed(Scenes.w(Words.struct(1, 2, 1), 99, 0xF7E6D5C4B3A29180L, 0x0123456789ABCDEFL,
                -1));
        x.root(0, 5);
        return x;
    }

    private static void pieces() {
        long[] data = {0xF7E6D5C4B3A29180L, 0x0123456789ABCDEFL};
        for (int bits : new int[] {1, 8, 16, 32, 64}) {
            SegmentDesk x = ofThreeWords();
            for (int n = 0; n < 128 / bits; n++) {
                int field = n;
                long up = data[n * bits / 64] << 64 - bits - n * bits % 64;
                Check.is(bits == 1 ? up >>> 63 : up >> 64 - bits, () -> x.number(0, bits, field, 0));
            }
        }
    }

    private static void beyondData() {
        SegmentDesk x = ofThreeWords();
        for (int bits : new int[] {1, 8, 16, 32, 64}) {
            Check.is(0, () -> x.number(0, bits, 128 / bits, 0));
            // Where n times bits wraps around it would lead back into the DATA.
            for (int n : new int[] {0x02000000, 0x04000000, 0x08000000, 0x20000000, 0x40000000, Integer.MAX_VALUE}) {
                Check.is(0, () -> x.number(0, bits, n, 0));
            }
        }
        SegmentDesk none = Scenes.placed(Scenes.w(Words.struct(0, 0, 1), -1));
        none.root(0, 1);
        Check.is(0, () -> none.number(0, 1, 0, 0));
        // Of an element's 8 bits there is no field of 16.
        SegmentDesk octets = Scenes.placed(Scenes.w(Words.list(0, 2, 8), -1));
        octets.root(0, 1);
        octets.element(1, 0, 2);
        Check.is(-1, () -> octets.number(1, 8, 0, 0));
        Check.is(1, () -> octets.number(1, 1, 7, 0));
        Check.is(0, () -> octets.number(1, 1, 8, 0));
        Check.is(0, () -> octets.number(1, 8, 1, 0));
        Check.is(0, () -> octets.number(1, 16, 0, 0));
    }

    private static void elementOfStructs() {
        SegmentDesk x = Scenes.reading();
        Check.is(1, () -> x.element(15, 8, 0));
        cursorIs(x, 15, 1, 8, 0, 17, 64, 1, 0, 0);
        Check.is(1, () -> x.element(15, 8, 1));
        cursorIs(x, 15, 1, 8, 0, 19, 64, 1, 0, 0);
    }

    private static void elementOfBits() {
        int[] bits = {0, 0, 8, 16, 32, 64};
        for (int code = 2; code <= 5; code++) {
            SegmentDesk x = Scenes.reading();
            int list = 1 + code;
            int count = x.look(list, 6);
            for (int n = 0; n < count; n++) {
                int at = n;
                Check.is(1, () -> x.element(15, list, at));
                cursorIs(x, 15, 1, 8, 0, 12 + n * bits[code] / 64, bits[code], 0, 0, 0);
                Check.is(x.item(list, n), () -> x.number(15, bits[x.look(list, 7)], 0, 0));
                Check.is(0, () -> x.follow(15, 15, 0));
            }
        }
    }

    private static void elementOfPointers() {
        SegmentDesk x = Scenes.reading();
        Check.is(1, () -> x.element(15, 7, 1));
        cursorIs(x, 15, 1, 8, 0, 15, 0, 1, 0, 0);
        Check.is(0, () -> x.follow(15, 15, 0));
        Check.is(1, () -> x.element(15, 7, 0));
        Check.is(0, () -> x.number(15, 64, 0, 0));
        Check.is(1, () -> x.follow(15, 15, 0));
        Check.is(1, () -> x.look(15, 3));
    }

    private static void elementOfNothing() {
        SegmentDesk x = Scenes.reading();
        for (int n = 0; n < 5; n++) {
            int at = n;
            Check.is(1, () -> x.element(15, 1, at));
            cursorIs(x, 15, 1, 8, 0, 12, 0, 0, 0, 0);
        }
    }

    private static void elementOfSingleBits() {
        Refused.malformed(Scenes::reading, x -> x.element(15, 2, 0));
        Refused.malformed(Scenes::reading, x -> x.element(2, 2, 69));
        Refused.bad(Scenes::reading, x -> x.element(15, 2, 70));
    }
}

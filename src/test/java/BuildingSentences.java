/** Terms: BUILDING and ALLOCATING; promises 13 to 17. */
final class BuildingSentences {
    private static final int[] BITS = {1, 8, 16, 32, 64};
    private static final int MIN = Integer.MIN_VALUE;
    private static final int MAX = Integer.MAX_VALUE;

    private BuildingSentences() {
    }

    static void all() {
        allocating();
        begins();
        structs();
        lists();
        puts();
        putReals();
    }

    private static void allocating() {
        Sentences.in("Terms");
        Sentences.holds("BUILDING needs a MESSAGE that is OWN: begun by begin(), with nothing set by word() or "
                + "segment() or taken by take() since then.", BuildingSentences::own);
        Sentences.holds("ALLOCATING n WORDS (all 0)", BuildingSentences::allZero);
        Sentences.holds("for a POINTER in SEGMENT s (a STRUCT without any WORDS: near, with OFFSET -1):",
                BuildingSentences::structWithoutWords);
        Sentences.holds("behind what is used in s, if it has n left: near.", BuildingSentences::near);
        Sentences.holds("Else in the first SEGMENT that has n + 1 left: a pad, then the WORDS: FAR to the pad, which "
                + "is near.", BuildingSentences::pad);
        Sentences.holds("Else, if there is a SEGMENT that has n left, and another one or the same that has 2 left "
                + "besides:", BuildingSentences::whenDouble);
        Sentences.holds("the WORDS in the first that has n left, then the two of a DOUBLE pad in the first that has "
                + "2 left", BuildingSentences::whereDouble);
        Sentences.holds("(n is at least 1 here): DOUBLE FAR.", BuildingSentences::doubleFar);
        Sentences.holds("Else, if there are fewer than 4 SEGMENTS and n + 1 is not above SIZE, a new one of SIZE "
                + "WORDS, and there as with n + 1 left.", BuildingSentences::newSegment);
        Sentences.holds("Else NO ROOM, and nothing changes.", BuildingSentences::noRoom);
        Sentences.holds("All SEGMENTS have SIZE WORDS of room, and what is used of it is their WORDS.",
                BuildingSentences::room);
    }

    private static void begins() {
        Sentences.in("Promise 13");
        Sentences.holds("A new MESSAGE that is OWN: one SEGMENT of SIZE size, of which one WORD is used, 0.",
                BuildingSentences::begun);
        Sentences.holds("CURSORS at NOTHING.", BuildingSentences::beginClearsCursors);
        Sentences.holds("BAD: size is not 1..64.", BuildingSentences::badSizes);
    }

    private static void structs() {
        Sentences.in("Promise 14");
        Sentences.holds("A new STRUCT, to which POINTER n of the STRUCT of CURSOR from, or element n of its LIST of "
                + "POINTERS, leads from then on", BuildingSentences::structLedTo);
        Sentences.holds("(from -1: the first WORD of SEGMENT 0; n is not looked at):", BuildingSentences::structAtRoot);
        Sentences.holds("CURSOR c stands there (DEPTH 64): STRUCT.", BuildingSentences::structCursor);
        Sentences.holds("What it led to before is in the MESSAGE still.", BuildingSentences::structBefore);
        Sentences.holds("BAD: c not 0..15, from not -1..15, data or pointers not 0..20,",
                BuildingSentences::badStructs);
        Sentences.holds("or it is not OWN.", BuildingSentences::structNotOwn);
        Sentences.holds("KIND: from stands at NOTHING, or at another LIST.", BuildingSentences::structKinds);
        Sentences.holds("BAD: no such POINTER or element.", BuildingSentences::structNoPointer);
        Sentences.holds("NO ROOM.", BuildingSentences::structNoRoom);
    }

    private static void lists() {
        Sentences.in("Promise 15");
        Sentences.holds("A new LIST likewise (LIST), of CODE code", BuildingSentences::listCursor);
        Sentences.holds("(0..7; 7 with data and pointers of each) and count elements.", BuildingSentences::listSizes);
        Sentences.holds("BAD: c, from, code, count not 0..64,", BuildingSentences::badLists);
        Sentences.holds("data or pointers not 0..8 (not looked at but for 7),", BuildingSentences::listEach);
        Sentences.holds("or it is not OWN;", BuildingSentences::listNotOwn);
        Sentences.holds("then KIND, BAD, NO ROOM likewise.", BuildingSentences::listThen);
    }

    private static void puts() {
        Sentences.in("Promise 16");
        Sentences.holds("Field n of bits of the STRUCT of CURSOR c,", BuildingSentences::putFields);
        Sentences.holds("or element n of its LIST of CODE 1 to 5 with elements of bits, becomes the lowest bits of v.",
                BuildingSentences::putElements);
        Sentences.holds("BAD: c, bits as number(), n below 0, or it is not OWN.", BuildingSentences::badPuts);
        Sentences.holds("KIND: it stands at something else.", BuildingSentences::putKinds);
        Sentences.holds("BAD: there is no such field or element.", BuildingSentences::putBeyond);
    }

    private static void putReals() {
        Sentences.in("Promise 17");
        Sentences.holds("Field n of 32 (wide: 64) bits of the STRUCT of CURSOR c becomes v as a float (the nearest "
                + "one, of two the even one) or double.", BuildingSentences::putRealFields);
        Sentences.holds("BAD, KIND, BAD likewise.", BuildingSentences::badPutReals);
        Sentences.holds("ArithmeticException: that is no finite number.", BuildingSentences::putNotFinite);
    }

    private static void isOwn(int due, SegmentDesk x) {
        Check.is(due, () -> x.count(3));
        if (due == 1) {
            Check.is(1, () -> x.struct(15, -1, 0, 0, 0));
        } else {
            Check.bad(() -> x.struct(15, -1, 0, 0, 0));
            Check.bad(() -> x.list(15, -1, 0, 0, 0, 0, 0));
        }
    }

    private static void own() {
        isOwn(0, new SegmentDesk());
        isOwn(1, Scenes.begun(3));
        SegmentDesk word = Scenes.building();
        word.word(1, 0, word.at(1, 0));
        isOwn(0, word);
        SegmentDesk segment = Scenes.building();
        segment.segment(1, 1, 0, 0, 0);
        isOwn(0, segment);
        SegmentDesk taken = Scenes.building();
        taken.take();
        isOwn(0, taken);
        SegmentDesk again = Scenes.building();
        again.word(0, 0, 0);
        again.begin(5);
        isOwn(1, again);
        // What only looks, or changes something else, leaves it OWN; so does what is refused.
        SegmentDesk stays = Scenes.building();
        stays.at(0, 0);
        stays.allow(500);
        stays.root(1, 9);
        stays.pack();
        stays.drop();
        stays.feed(1, 1);
        Check.malformed(() -> stays.take());
        Check.bad(() -> stays.word(9, 9, 9));
        Check.bad(() -> stays.segment(0, 1, 1, 1, 1));
        Check.bad(() -> stays.begin(0));
        isOwn(1, stays);
    }

    private static void allZero() {
        SegmentDesk x = new SegmentDesk();
        x.segment(4, 64, 64, 64, 64);
        for (int s = 0; s < 4; s++) {
            for (int k = 0; k < 12; k++) {
                x.word(s, k, -1);
            }
        }
        x.begin(12);
        x.struct(0, -1, 0, 10, 1);
        x.struct(1, 0, 0, 11, 0);
        Words.are(x, 0, Words.struct(0, 10, 1), 0, 0, 0, 0, 0, 0, 0, 0, 0, 0, Words.far(1, 0));
        Words.are(x, 1, Words.struct(0, 11, 0), 0, 0, 0, 0, 0, 0, 0, 0, 0, 0, 0);
        x.begin(5);
        x.list(0, -1, 0, 6, 4, 0, 0);
        x.list(1, 0, 3, 7, 1, 1, 2);
        Words.are(x, 0, Words.list(0, 6, 4), 0, 0, 0, Words.far(1, 0));
        Words.are(x, 1, Words.list(0, 7, 3), Words.struct(1, 1, 2), 0, 0, 0);
    }

    private static void structWithoutWords() {
        SegmentDesk x = Scenes.crowded();
        Check.is(1, () -> x.struct(9, 3, 1, 0, 0));
        Check.is(0xFFFFFFFCL, () -> x.at(3, 3));
        PointerSentences.cursorIs(x, 9, 1, 64, 3, 3, 0, 0, 0, 0);
        Check.is(1, () -> x.struct(9, -1, 0, 0, 0));
        Check.is(0xFFFFFFFCL, () -> x.at(0, 0));
        PointerSentences.cursorIs(x, 9, 1, 64, 0, 0, 0, 0, 0, 0);
        for (int s = 0; s < 4; s++) {
            int segment = s;
            Check.is(4, () -> x.count(4 + segment));
        }
        // FOLLOWED, it stands at the same place.
        x.root(8, 1);
        PointerSentences.cursorIs(x, 8, 1, 0, 0, 0, 0, 0, 0, 0);
        SegmentDesk wide = Scenes.begun(64);
        wide.struct(0, -1, 0, 0, 0);
        Check.is(1, () -> wide.count(4));
    }

    /** SIZE 10, of which 4 WORDS are left; CURSOR 0 at a STRUCT of five POINTERS from WORD 1 on. */
    private static SegmentDesk fourLeft() {
        SegmentDesk x = Scenes.begun(10);
        x.struct(0, -1, 0, 0, 5);
        return x;
    }

    private static void near() {
        for (int n = 1; n <= 4; n++) {
            int words = n;
            SegmentDesk x = fourLeft();
            Check.is(1, () -> x.struct(1, 0, 0, words, 0));
            PointerSentences.cursorIs(x, 1, 1, 64, 0, 6, 64 * n, 0, 0, 0);
            Check.is(Words.struct(4, n, 0), () -> x.at(0, 1));
            Check.is(1, () -> x.count(0));
            Check.is(6 + n, () -> x.count(4));
        }
        SegmentDesk over = fourLeft();
        Check.is(1, () -> over.struct(1, 0, 0, 5, 0));
        Check.is(1, () -> over.look(1, 2));
        Check.is(6, () -> over.count(4));
        // In the POINTER's SEGMENT, though one before it has room as well.
        SegmentDesk second = Scenes.begun(10);
        second.struct(0, -1, 0, 0, 2);
        second.struct(1, 0, 0, 0, 8);
        Check.is(1, () -> second.struct(2, 1, 7, 0, 1));
        PointerSentences.cursorIs(second, 2, 1, 64, 1, 9, 0, 1, 0, 0);
        Check.is(Words.struct(0, 0, 1), () -> second.at(1, 8));
        nearWithoutWords();
    }

    private static void nearWithoutWords() {
        for (int code = 0; code <= 6; code++) {
            int c = code;
            int count = code == 0 ? 64 : 0;
            SegmentDesk x = Scenes.crowded();
            Check.is(2, () -> x.list(9, 1, 0, c, count, 0, 0));
            PointerSentences.cursorIs(x, 9, 2, 64, 1, 4, 0, 0, count, c);
            Check.is(Words.list(0, code, count), () -> x.at(1, 3));
        }
        // The TAG is a WORD.
        Refused.noRoom(Scenes::crowded, x -> x.list(9, 1, 0, 7, 0, 0, 0));
    }

    /** SIZE 10: SEGMENT 0 is full, with POINTERS 0 to 8 of CURSOR 0; 3, 4 and 4 WORDS are left in SEGMENTS 1 to 3. */
    private static SegmentDesk nearlyFull() {
        SegmentDesk x = Scenes.begun(10);
        x.struct(0, -1, 0, 0, 9);
        x.struct(1, 0, 0, 6, 0);
        x.struct(2, 0, 1, 5, 0);
        x.struct(3, 0, 2, 5, 0);
        return x;
    }

    private static void usedIs(SegmentDesk x, int... due) {
        Check.is(due.length, () -> x.count(0));
        for (int s = 0; s < due.length; s++) {
            int segment = s;
            Check.is(due[s], () -> x.count(4 + segment));
        }
    }

    private static void pad() {
        SegmentDesk two = nearlyFull();
        usedIs(two, 10, 7, 6, 6);
        Check.is(1, () -> two.struct(4, 0, 3, 1, 1));
        usedIs(two, 10, 10, 6, 6);
        PointerSentences.cursorIs(two, 4, 1, 64, 1, 8, 64, 1, 0, 0);
        Check.is(Words.far(1, 7), () -> two.at(0, 4));
        Check.is(Words.struct(0, 1, 1), () -> two.at(1, 7));
        // SEGMENT 1 has just 3 left: the first that has 4 is SEGMENT 2.
        SegmentDesk three = nearlyFull();
        Check.is(2, () -> three.list(4, 0, 3, 7, 1, 1, 1));
        usedIs(three, 10, 7, 10, 6);
        PointerSentences.cursorIs(three, 4, 2, 64, 2, 7, 0, 0, 1, 7);
        Check.is(Words.far(2, 6), () -> three.at(0, 4));
        Check.is(Words.list(0, 7, 2), () -> three.at(2, 6));
        Check.is(Words.struct(1, 1, 1), () -> three.at(2, 7));
        // A SEGMENT in front of the POINTER's.
        SegmentDesk before = Scenes.begun(10);
        before.struct(0, -1, 0, 0, 2);
        before.struct(1, 0, 0, 0, 8);
        usedIs(before, 3, 9);
        Check.is(1, () -> before.struct(2, 1, 0, 6, 0));
        usedIs(before, 10, 9);
        Check.is(Words.far(0, 3), () -> before.at(1, 1));
        Check.is(Words.struct(0, 6, 0), () -> before.at(0, 3));
        PointerSentences.cursorIs(before, 2, 1, 64, 0, 4, 384, 0, 0, 0);
    }

    private static void whenDouble() {
        // 3 left and 2 left besides; the other way round; 3 and 1: no.
        SegmentDesk x = segmentsOf(8, 7);
        Check.is(1, () -> x.struct(4, 0, 1, 3, 0));
        usedIs(x, 10, 10);
        SegmentDesk turned = segmentsOf(7, 8);
        Check.is(1, () -> turned.struct(4, 1, 1, 3, 0));
        usedIs(turned, 10, 10);
        SegmentDesk one = segmentsOf(9, 7);
        Check.is(1, () -> one.struct(4, 0, 1, 3, 0));
        usedIs(one, 9, 7, 4);
        SegmentDesk less = segmentsOf(8, 8);
        Check.is(1, () -> less.struct(4, 0, 1, 3, 0));
        usedIs(less, 8, 8, 4);
        // Two left are not both what the WORDS take and what the pad takes.
        SegmentDesk two = segmentsOf(9, 8);
        Check.is(1, () -> two.struct(4, 0, 1, 2, 0));
        usedIs(two, 9, 8, 3);
        SegmentDesk single = segmentsOf(10, 9);
        Check.is(1, () -> single.struct(4, 0, 1, 1, 0));
        usedIs(single, 10, 9, 2);
    }

    /** SIZE 10, two SEGMENTS of which so many WORDS are used; CURSORS 0 and 1 at a STRUCT of two POINTERS in each. */
    private static SegmentDesk segmentsOf(int first, int second) {
        SegmentDesk x = Scenes.begun(10);
        x.struct(0, -1, 0, first - 3, 2);
        x.struct(1, 0, 0, second - 3, 2);
        usedIs(x, first, second);
        return x;
    }

    private static void whereDouble() {
        // 0, 3, 4 and 4 left: 4 WORDS in SEGMENT 2, the first with 4, and the pad in SEGMENT 1, the first with 2.
        SegmentDesk x = nearlyFull();
        Check.is(1, () -> x.struct(4, 0, 3, 3, 1));
        usedIs(x, 10, 9, 10, 6);
        PointerSentences.cursorIs(x, 4, 1, 64, 2, 6, 192, 1, 0, 0);
        Check.is(Words.doubleFar(1, 7), () -> x.at(0, 4));
        Check.is(Words.far(2, 6), () -> x.at(1, 7));
        Check.is(Words.struct(0, 3, 1), () -> x.at(1, 8));
        // Then 0, 1, 0 and 4 are left: 4 WORDS would go to SEGMENT 3, but no pad.
        Refused.noRoom(() -> {
            SegmentDesk y = nearlyFull();
            y.struct(4, 0, 3, 3, 1);
            return y;
        }, y -> y.struct(5, 0, 4, 3, 1));
        // The pad in the POINTER's own SEGMENT.
        SegmentDesk own = segmentsOf(8, 7);
        own.struct(4, 0, 1, 3, 0);
        Check.is(Words.doubleFar(0, 8), () -> own.at(0, 7));
        Check.is(Words.far(1, 7), () -> own.at(0, 8));
        Check.is(Words.struct(0, 3, 0), () -> own.at(0, 9));
        // The POINTER's own SEGMENT has 2 left as well, but another one that has comes before it.
        SegmentDesk first = segmentsOf(8, 6);
        first.struct(2, 0, 1, 5, 2);
        usedIs(first, 8, 6, 8);
        Check.is(1, () -> first.struct(3, 2, 0, 4, 0));
        usedIs(first, 10, 10, 8);
        PointerSentences.cursorIs(first, 3, 1, 64, 1, 6, 256, 0, 0, 0);
        Check.is(Words.doubleFar(0, 8), () -> first.at(2, 6));
        Check.is(Words.far(1, 6), () -> first.at(0, 8));
        Check.is(Words.struct(0, 4, 0), () -> first.at(0, 9));
        // Both have just 2 left: the first takes the WORDS, so the pad goes to the other one.
        SegmentDesk both = Scenes.begun(6);
        both.struct(0, -1, 0, 0, 5);
        both.struct(1, 0, 0, 0, 3);
        both.struct(2, 0, 1, 3, 0);
        usedIs(both, 6, 4, 4);
        Check.is(2, () -> both.list(3, 0, 2, 5, 2, 0, 0));
        usedIs(both, 6, 6, 6);
        Check.is(Words.doubleFar(2, 4), () -> both.at(0, 3));
        Words.are(both, 1, Words.struct(0, 0, 3), 0, 0, 0, 0, 0);
        Words.are(both, 2, Words.struct(0, 3, 0), 0, 0, 0, Words.far(1, 4), Words.list(0, 5, 2));
    }

    private static void doubleFar() {
        SegmentDesk x = nearlyFull();
        Check.is(2, () -> x.list(4, 0, 3, 7, 3, 1, 0));
        Check.is(Words.doubleFar(1, 7), () -> x.at(0, 4));
        Check.is(Words.far(2, 6), () -> x.at(1, 7));
        Check.is(Words.list(0, 7, 3), () -> x.at(1, 8));
        Check.is(Words.struct(3, 1, 0), () -> x.at(2, 6));
        x.element(5, 4, 2);
        x.put(5, 64, 0, 77);
        Check.is(1, () -> x.root(6, 9));
        Check.is(2, () -> x.follow(7, 6, 3));
        PointerSentences.cursorIs(x, 7, 2, 7, 2, 6, 0, 0, 3, 7);
        x.element(7, 7, 2);
        Check.is(77, () -> x.number(7, 64, 0, 0));
        // Of no WORDS there is none: they are near, wherever the POINTER is.
        SegmentDesk none = nearlyFull();
        Check.is(2, () -> none.list(4, 0, 3, 5, 0, 0, 0));
        Check.is(Words.list(5, 5, 0), () -> none.at(0, 4));
        PointerSentences.cursorIs(none, 4, 2, 64, 0, 10, 0, 0, 0, 5);
        usedIs(none, 10, 7, 6, 6);
    }

    private static void newSegment() {
        SegmentDesk x = Scenes.begun(4);
        Check.is(1, () -> x.struct(0, -1, 0, 3, 0));
        usedIs(x, 4);
        for (int s = 1; s < 4; s++) {
            int segment = s;
            Check.is(1, () -> x.struct(0, -1, 0, 2, 1));
            PointerSentences.cursorIs(x, 0, 1, 64, s, 1, 128, 1, 0, 0);
            Check.is(s + 1, () -> x.count(0));
            Check.is(4, () -> x.count(4 + segment));
            Check.is(Words.far(s, 0), () -> x.at(0, 0));
            Check.is(Words.struct(0, 2, 1), () -> x.at(segment, 0));
        }
        Check.noRoom(() -> x.struct(0, -1, 0, 2, 1));
        Refused.noRoom(() -> Scenes.begun(4), y -> y.struct(0, -1, 0, 4, 0));
        Refused.noRoom(() -> Scenes.begun(1), y -> y.struct(0, -1, 0, 1, 0));
        SegmentDesk two = Scenes.begun(2);
        Check.is(1, () -> two.struct(0, -1, 0, 0, 1));
        Check.is(1, () -> two.struct(1, 0, 0, 1, 0));
        usedIs(two, 2, 2);
        Check.noRoom(() -> two.struct(1, 0, 0, 2, 0));
        // At SIZE 64: 63 WORDS and a pad, and no more.
        SegmentDesk most = Scenes.begun(64);
        Check.is(2, () -> most.list(0, -1, 0, 6, 63, 0, 0));
        Check.is(2, () -> most.list(1, 0, 62, 5, 63, 0, 0));
        usedIs(most, 64, 64);
        Check.noRoom(() -> most.list(1, 0, 62, 5, 64, 0, 0));
        Refused.noRoom(() -> Scenes.begun(64), y -> y.list(0, -1, 0, 5, 64, 0, 0));
        Refused.noRoom(() -> Scenes.begun(64), y -> y.list(0, -1, 0, 7, 64, 8, 8));
    }

    private static void noRoom() {
        for (int words = 1; words <= 3; words++) {
            int n = words;
            Refused.noRoom(Scenes::crowded, x -> x.struct(0, 0, 0, n, 0));
            Refused.noRoom(Scenes::crowded, x -> x.struct(9, -1, 0, 0, n));
            Refused.noRoom(Scenes::crowded, x -> x.list(3, 3, 1, 5, n, 0, 0));
            Refused.noRoom(Scenes::crowded, x -> x.list(3, 3, 1, 7, 0, n, n));
        }
        // 0, 3, 4 and 4 left: nothing of 5, and after a DOUBLE pad nothing of 4.
        Refused.noRoom(BuildingSentences::nearlyFull, x -> x.struct(4, 0, 3, 5, 0));
        // One has n left, but none has 2 left besides: what it has stays there for something smaller.
        Scenes.Scene tight = () -> {
            SegmentDesk x = nearlyFull();
            x.struct(4, 0, 3, 3, 1);
            return x;
        };
        Refused.noRoom(tight, x -> x.struct(5, 0, 4, 4, 0));
        SegmentDesk x = tight.make();
        Check.noRoom(() -> x.struct(5, 0, 4, 4, 0));
        Check.is(1, () -> x.struct(5, 0, 4, 3, 0));
        usedIs(x, 10, 9, 10, 10);
        Check.is(Words.far(3, 6), () -> x.at(0, 5));
        // Just one left in SEGMENT 1: too little for one WORD and its pad.
        Refused.noRoom(() -> {
            SegmentDesk y = tight.make();
            y.struct(5, 0, 4, 3, 0);
            return y;
        }, y -> y.struct(6, 0, 5, 1, 0));
    }

    private static void room() {
        SegmentDesk x = Scenes.building();
        usedIs(x, 11, 11);
        Check.bad(() -> x.at(0, 11));
        Check.bad(() -> x.at(1, 11));
        // The one WORD that is left in each is still for what is near.
        Check.is(1, () -> x.struct(9, 0, 2, 1, 0));
        usedIs(x, 12, 11);
        Check.is(1, () -> x.struct(9, 5, 0, 1, 0));
        usedIs(x, 12, 12);
        Check.is(1, () -> x.struct(9, 5, 0, 11, 0));
        usedIs(x, 12, 12, 12);
        Refused.noRoom(Scenes::building, y -> y.struct(9, 5, 0, 12, 0));
        for (int size : new int[] {2, 64}) {
            SegmentDesk y = Scenes.begun(size);
            Check.is(2, () -> y.list(0, -1, 0, 5, size - 1, 0, 0));
            usedIs(y, size);
            Check.is(0, () -> y.at(0, size - 1));
            Check.bad(() -> y.at(0, size));
        }
    }

    private static void begun() {
        for (int size : new int[] {1, 2, 63, 64}) {
            for (Scenes.Scene scene : Scenes.ALL) {
                SegmentDesk x = scene.make();
                int octets = x.count(1);
                int allowance = x.count(2);
                Check.fine(() -> x.begin(size));
                ReadingSentences.countsAre(x, 1, octets, allowance, 1, 1, 0, 0, 0, size);
                Check.is(0, () -> x.at(0, 0));
                Check.is(0, () -> x.root(0, 0));
            }
        }
    }

    private static void beginClearsCursors() {
        for (Scenes.Scene scene : Scenes.ALL) {
            SegmentDesk x = scene.make();
            x.begin(7);
            ReadingSentences.allAtNothing(x);
        }
    }

    private static void badSizes() {
        for (int size : new int[] {0, 65, -1, MIN, MAX}) {
            Refused.badEverywhere(x -> x.begin(size));
        }
    }

    private static void structLedTo() {
        SegmentDesk x = Scenes.begun(20);
        x.struct(0, -1, 0, 1, 2);
        Check.is(1, () -> x.struct(1, 0, 0, 0, 1));
        Check.is(1, () -> x.struct(2, 0, 1, 2, 0));
        x.list(3, 1, 0, 6, 2, 0, 0);
        Check.is(1, () -> x.struct(4, 3, 1, 1, 0));
        Check.is(1, () -> x.struct(5, 3, 0, 1, 1));
        Words.are(x, 0, Words.struct(0, 1, 2), 0, Words.struct(1, 0, 1), Words.struct(1, 2, 0),
                Words.list(2, 6, 2), 0, 0, Words.struct(2, 1, 1), Words.struct(0, 1, 0), 0, 0, 0);
        Check.is(1, () -> x.root(6, 9));
        Check.is(1, () -> x.follow(6, 6, 0));
        Check.is(2, () -> x.follow(6, 6, 0));
        Check.is(1, () -> x.follow(7, 6, 0));
        Check.is(10, () -> x.look(7, 3));
        Check.is(1, () -> x.follow(7, 6, 1));
        Check.is(9, () -> x.look(7, 3));
        fromEachCursor();
    }

    /** Whichever CURSOR it is, and wherever that stands. */
    private static void fromEachCursor() {
        for (int c = 0; c < 16; c++) {
            int from = c;
            SegmentDesk x = Scenes.begun(8);
            x.struct(from, -1, 0, 1, 1);
            x.struct(from, from, 0, 2, 4);
            Check.is(1, () -> x.look(from, 2));
            Check.is(1, () -> x.struct((from + 1) % 16, from, 3, 1, 0));
            Words.are(x, 1, Words.struct(0, 2, 4), 0, 0, 0, 0, 0, Words.struct(0, 1, 0), 0);
            Words.are(x, 0, Words.struct(0, 1, 1), 0, Words.far(1, 0));
            Check.is(2, () -> x.list(from, from, 0, 5, 0, 0, 0));
            Check.is(Words.list(4, 5, 0), () -> x.at(1, 3));
        }
    }

    private static void structAtRoot() {
        for (int n : new int[] {0, 1, -1, MIN, MAX}) {
            SegmentDesk x = Scenes.begun(20);
            Check.is(1, () -> x.struct(0, -1, n, 1, 1));
            Words.are(x, 0, Words.struct(0, 1, 1), 0, 0);
            Check.is(1, () -> x.struct(1, -1, n, 2, 0));
            Words.are(x, 0, Words.struct(2, 2, 0), 0, 0, 0, 0);
        }
    }

    private static void structCursor() {
        for (int[] size : new int[][] {{0, 0}, {1, 0}, {0, 1}, {20, 20}, {20, 0}, {0, 20}}) {
            SegmentDesk x = Scenes.begun(64);
            x.struct(0, -1, 0, 0, 1);
            Check.is(SegmentDesk.STRUCT, () -> x.struct(15, 0, 0, size[0], size[1]));
            int place = size[0] + size[1] == 0 ? 1 : 2;
            PointerSentences.cursorIs(x, 15, 1, 64, 0, place, 64 * size[0], size[1], 0, 0);
            PointerSentences.cursorIs(x, 0, 1, 64, 0, 1, 0, 1, 0, 0);
        }
        // The same CURSOR for both; and one that was at an element stands at the STRUCT's first bit.
        SegmentDesk same = Scenes.building();
        Check.is(SegmentDesk.STRUCT, () -> same.struct(0, 0, 2, 1, 0));
        PointerSentences.cursorIs(same, 0, 1, 64, 0, 11, 64, 0, 0, 0);
        SegmentDesk element = Scenes.building();
        element.struct(6, 0, 2, 1, 0);
        element.put(6, 16, 3, -1);
        Check.is(-1L << 48, () -> element.at(0, 11));
    }

    private static void structBefore() {
        SegmentDesk x = Scenes.begun(9);
        x.struct(0, -1, 0, 1, 1);
        x.put(0, 64, 0, 5);
        x.struct(1, 0, 0, 1, 0);
        x.put(1, 64, 0, 6);
        x.struct(2, -1, 0, 1, 0);
        Words.are(x, 0, Words.struct(3, 1, 0), 5, Words.struct(0, 1, 0), 6, 0);
        Check.is(5, () -> x.number(0, 64, 0, 0));
        Check.is(6, () -> x.number(1, 64, 0, 0));
        Check.is(1, () -> x.follow(3, 0, 0));
        x.struct(2, -1, 0, 0, 0);
        Words.are(x, 0, Words.struct(-1, 0, 0), 5, Words.struct(0, 1, 0), 6, 0);
    }

    private static void badStructs() {
        for (int c : new int[] {-1, 16, MIN, MAX}) {
            Refused.badEverywhere(x -> x.struct(c, -1, 0, 1, 1));
        }
        for (int from : new int[] {-2, 16, MIN, MAX}) {
            Refused.badEverywhere(x -> x.struct(0, from, 0, 1, 1));
        }
        for (int bad : new int[] {-1, 21, MIN, MAX}) {
            Refused.badEverywhere(x -> x.struct(0, -1, 0, bad, 0));
            Refused.badEverywhere(x -> x.struct(0, -1, 0, 0, bad));
        }
        SegmentDesk x = Scenes.begun(64);
        Check.is(1, () -> x.struct(15, -1, 0, 20, 20));
        Check.is(1, () -> x.struct(0, 15, 19, 0, 0));
    }

    private static void structNotOwn() {
        Refused.bad(SegmentDesk::new, x -> x.struct(0, -1, 0, 0, 0));
        Refused.bad(Scenes::reading, x -> x.struct(0, 0, 0, 1, 0));
        Refused.bad(Scenes::reading, x -> x.struct(0, 7, 0, 0, 0));
        Refused.bad(Scenes::rootless, x -> x.struct(0, -1, 0, 1, 0));
    }

    private static void structKinds() {
        for (int from = 8; from <= 15; from++) {
            int nothing = from;
            Refused.kind(Scenes::building, x -> x.struct(9, nothing, 0, 1, 0));
            Refused.kind(Scenes::building, x -> x.struct(9, nothing, -1, 0, 0));
        }
        for (int code : new int[] {0, 1, 2, 3, 4, 5, 7}) {
            for (int n : new int[] {0, -1, MAX}) {
                Refused.kind(() -> atList(code), x -> x.struct(9, 1, n, 0, 0));
            }
        }
    }

    private static SegmentDesk atList(int code) {
        SegmentDesk x = Scenes.begun(20);
        x.list(1, -1, 0, code, 2, 1, 1);
        return x;
    }

    private static void structNoPointer() {
        for (int n : new int[] {3, 4, -1, MIN, MAX}) {
            Refused.bad(Scenes::building, x -> x.struct(9, 0, n, 0, 0));
        }
        for (int n : new int[] {2, 3, -1, MIN, MAX}) {
            Refused.bad(Scenes::building, x -> x.struct(9, 4, n, 0, 0));
        }
        // An element of numbers, and a STRUCT of DATA alone, have no POINTERS.
        Refused.bad(Scenes::building, x -> x.struct(9, 6, 0, 0, 0));
        Refused.bad(Scenes::crowded, x -> x.struct(9, 2, 0, 0, 0));
        Refused.bad(() -> {
            SegmentDesk x = Scenes.begun(5);
            x.list(0, -1, 0, 6, 0, 0, 0);
            return x;
        }, x -> x.struct(9, 0, 0, 0, 0));
        SegmentDesk x = Scenes.building();
        Check.is(1, () -> x.struct(9, 0, 2, 0, 0));
        Check.is(1, () -> x.struct(9, 4, 1, 0, 0));
        Check.is(1, () -> x.struct(9, 5, 0, 0, 0));
    }

    private static void structNoRoom() {
        Refused.noRoom(() -> Scenes.begun(40), x -> x.struct(0, -1, 0, 20, 20));
        Refused.noRoom(() -> Scenes.begun(5), x -> x.struct(0, -1, 0, 2, 3));
        Refused.noRoom(Scenes::crowded, x -> x.struct(3, 3, 0, 1, 0));
        SegmentDesk fits = Scenes.begun(41);
        Check.is(1, () -> fits.struct(0, -1, 0, 20, 20));
        Check.is(41, () -> fits.count(4));
    }

    private static void listCursor() {
        int[] bits = {0, 1, 8, 16, 32, 64, 64};
        for (int code = 0; code < 7; code++) {
            int c = code;
            for (int count : new int[] {0, 1, 9, 64}) {
                SegmentDesk x = Scenes.begun(64);
                int words = (count * bits[code] + 63) / 64;
                if (words == 64) {
                    Check.noRoom(() -> x.list(15, -1, 0, c, count, 0, 0));
                } else {
                    Check.is(SegmentDesk.LIST, () -> x.list(15, -1, -5, c, count, 0, 0));
                    PointerSentences.cursorIs(x, 15, 2, 64, 0, 1, 0, 0, count, code);
                    Check.is(Words.list(0, code, count), () -> x.at(0, 0));
                    Check.is(1 + words, () -> x.count(4));
                }
            }
        }
        SegmentDesk x = Scenes.building();
        Check.is(SegmentDesk.LIST, () -> x.list(4, 4, 1, 2, 8, 0, 0));
        PointerSentences.cursorIs(x, 4, 2, 64, 0, 11, 0, 0, 8, 2);
        Check.is(Words.list(0, 2, 8), () -> x.at(0, 10));
        Check.is(SegmentDesk.LIST, () -> x.list(0, 0, 0, 0, 3, 0, 0));
        Check.is(Words.list(8, 0, 3), () -> x.at(0, 3));
    }

    private static void listSizes() {
        int[][] sizes = {{0, 0, 0}, {0, 8, 8}, {1, 8, 8}, {64, 0, 0}, {62, 1, 0}, {62, 0, 1}, {3, 2, 1}};
        for (int[] size : sizes) {
            SegmentDesk x = Scenes.begun(64);
            int words = size[0] * (size[1] + size[2]);
            Check.is(SegmentDesk.LIST, () -> x.list(15, -1, 0, 7, size[0], size[1], size[2]));
            PointerSentences.cursorIs(x, 15, 2, 64, 0, 1, 0, 0, size[0], 7);
            Check.is(Words.list(0, 7, words), () -> x.at(0, 0));
            Check.is(Words.struct(size[0], size[1], size[2]), () -> x.at(0, 1));
            Check.is(2 + words, () -> x.count(4));
            if (size[0] > 0) {
                Check.is(1, () -> x.element(0, 15, size[0] - 1));
                PointerSentences.cursorIs(x, 0, 1, 64, 0, 2 + words - size[1] - size[2], 64 * size[1], size[2], 0, 0);
            }
            Check.bad(() -> x.element(0, 15, size[0]));
        }
    }

    private static void badLists() {
        for (int c : new int[] {-1, 16, MIN, MAX}) {
            Refused.badEverywhere(x -> x.list(c, -1, 0, 1, 1, 0, 0));
        }
        for (int from : new int[] {-2, 16, MIN, MAX}) {
            Refused.badEverywhere(x -> x.list(0, from, 0, 1, 1, 0, 0));
        }
        for (int code : new int[] {-1, 8, MIN, MAX}) {
            Refused.badEverywhere(x -> x.list(0, -1, 0, code, 0, 0, 0));
        }
        for (int count : new int[] {-1, 65, MIN, MAX}) {
            for (int code = 0; code < 8; code++) {
                int c = code;
                Refused.badEverywhere(x -> x.list(0, -1, 0, c, count, 0, 0));
            }
        }
    }

    private static void listEach() {
        for (int bad : new int[] {-1, 9, MIN, MAX}) {
            Refused.badEverywhere(x -> x.list(0, -1, 0, 7, 0, bad, 0));
            Refused.badEverywhere(x -> x.list(0, -1, 0, 7, 0, 0, bad));
            for (int code = 0; code < 7; code++) {
                int c = code;
                SegmentDesk x = Scenes.begun(9);
                Check.is(SegmentDesk.LIST, () -> x.list(0, -1, 0, c, 1, bad, bad));
                PointerSentences.cursorIs(x, 0, 2, 64, 0, 1, 0, 0, 1, code);
            }
        }
        SegmentDesk x = Scenes.begun(64);
        Check.is(SegmentDesk.LIST, () -> x.list(0, -1, 0, 7, 3, 8, 8));
        Check.is(50, () -> x.count(4));
    }

    private static void listNotOwn() {
        Refused.bad(SegmentDesk::new, x -> x.list(0, -1, 0, 0, 0, 0, 0));
        Refused.bad(Scenes::reading, x -> x.list(0, 0, 0, 1, 1, 0, 0));
        Refused.bad(Scenes::reading, x -> x.list(0, 7, 0, 7, 1, 1, 1));
    }

    private static void listThen() {
        Refused.kind(Scenes::building, x -> x.list(9, 15, 0, 1, 1, 0, 0));
        Refused.kind(Scenes::building, x -> x.list(9, 15, -1, 5, 64, 0, 0));
        for (int code : new int[] {0, 1, 2, 3, 4, 5, 7}) {
            for (int n : new int[] {0, -1, MAX}) {
                Refused.kind(() -> atList(code), x -> x.list(9, 1, n, 0, 0, 0, 0));
            }
        }
        for (int n : new int[] {3, -1, MIN, MAX}) {
            Refused.bad(Scenes::building, x -> x.list(9, 0, n, 0, 0, 0, 0));
            Refused.bad(Scenes::building, x -> x.list(9, 0, n, 5, 64, 0, 0));
        }
        for (int n : new int[] {2, -1, MIN, MAX}) {
            Refused.bad(Scenes::building, x -> x.list(9, 4, n, 0, 0, 0, 0));
        }
        Refused.noRoom(Scenes::building, x -> x.list(9, 4, 0, 5, 12, 0, 0));
        Refused.noRoom(Scenes::building, x -> x.list(9, 4, 0, 7, 11, 1, 0));
        SegmentDesk fits = Scenes.building();
        Check.is(SegmentDesk.LIST, () -> fits.list(9, 4, 0, 7, 10, 1, 0));
        usedIs(fits, 11, 11, 12);
    }

    private static void putFields() {
        for (int bits : BITS) {
            for (int n : new int[] {0, 1, 64 / bits, 128 / bits - 1}) {
                SegmentDesk x = Scenes.begun(6);
                x.struct(0, -1, 0, 2, 1);
                x.put(0, 64, 0, 0x5555555555555555L);
                x.put(0, 64, 1, 0x5555555555555555L);
                Check.fine(() -> x.put(0, bits, n, -1));
                Check.is(bits == 1 ? 1 : -1, () -> x.number(0, bits, n, 0));
                long ones = (bits == 64 ? -1 : (1L << bits) - 1) << n * bits % 64;
                int at = 1 + n * bits / 64;
                Check.is(0x5555555555555555L | ones, () -> x.at(0, at));
                Check.is(0x5555555555555555L, () -> x.at(0, 3 - at));
                Check.fine(() -> x.put(0, bits, n, bits == 64 ? 0 : 2L << bits - 1));
                Check.is(0x5555555555555555L & ~ones, () -> x.at(0, at));
                Check.is(0, () -> x.at(0, 3));
                Check.is(1, () -> x.count(3));
            }
        }
        SegmentDesk element = Scenes.building();
        Check.fine(() -> element.put(6, 8, 1, 0x7F));
        Check.is(0x7F00, () -> element.item(1, 3));
        Check.is(0x1234, () -> element.item(1, 4));
        Check.is(0, () -> element.item(1, 2));
        Check.fine(() -> element.put(6, 16, 0, 0x12345));
        Check.is(0x2345, () -> element.item(1, 3));
        Check.fine(() -> element.put(7, 64, 0, 9));
        Check.is(9, () -> element.number(0, 64, 0, 0));
    }

    private static void putElements() {
        int[] bits = {0, 1, 8, 16, 32, 64};
        for (int code = 1; code <= 5; code++) {
            int b = bits[code];
            int c = code;
            int count = b == 1 ? 64 : 64 / b + 1;
            for (int n : new int[] {0, count - 2, count - 1}) {
                SegmentDesk x = Scenes.begun(6);
                x.list(0, -1, 0, c, count, 0, 0);
                Check.fine(() -> x.put(0, b, n, -1));
                for (int k = 0; k < count; k++) {
                    int item = k;
                    Check.is(k != n ? 0 : b == 1 ? 1 : -1, () -> x.item(0, item));
                }
                Check.fine(() -> x.put(0, b, n, b == 64 ? 0 : 1L << b));
                Check.is(0, () -> x.item(0, n));
            }
        }
    }

    private static void badPuts() {
        for (int c : new int[] {-1, 16, MIN, MAX}) {
            Refused.badEverywhere(x -> x.put(c, 8, 0, 1));
        }
        for (int bits : new int[] {0, 2, 4, 7, 9, 24, 63, 65, 128, -1, -8, MIN, MAX}) {
            Refused.badEverywhere(x -> x.put(0, bits, 0, 1));
            Refused.bad(Scenes::building, x -> x.put(15, bits, 0, 1));
        }
        for (int n : new int[] {-1, MIN}) {
            for (int c : new int[] {0, 1, 3, 4, 5, 6, 15}) {
                Refused.bad(Scenes::building, x -> x.put(c, 16, n, 1));
            }
        }
        for (int c : new int[] {0, 2, 6, 7, 10, 12, 15}) {
            Refused.bad(Scenes::reading, x -> x.put(c, 8, 0, 1));
        }
        Refused.bad(SegmentDesk::new, x -> x.put(0, 8, 0, 1));
    }

    private static void putKinds() {
        int[] bitsOf = {0, 1, 8, 16, 32, 64, 0, 0};
        for (int code = 0; code < 8; code++) {
            int c = code;
            for (int bits : BITS) {
                if (bits != bitsOf[code]) {
                    Refused.kind(() -> atList(c), x -> x.put(1, bits, 0, 1));
                    Refused.kind(() -> atList(c), x -> x.put(1, bits, MAX, 1));
                }
            }
        }
        for (int bits : BITS) {
            Refused.kind(Scenes::building, x -> x.put(15, bits, 0, 1));
            Refused.kind(Scenes::building, x -> x.put(15, bits, MAX, 1));
        }
    }

    private static void putBeyond() {
        for (int bits : BITS) {
            for (int n : new int[] {128 / bits, 128 / bits + 1, 0x04000000, 0x08000000, 0x20000000, 0x40000000, MAX}) {
                Refused.bad(Scenes::building, x -> x.put(0, bits, n, 1));
            }
        }
        for (int n : new int[] {5, 6, 0x10000000, MAX}) {
            Refused.bad(Scenes::building, x -> x.put(1, 16, n, 1));
        }
        Refused.bad(Scenes::building, x -> x.put(6, 16, 1, 1));
        Refused.bad(Scenes::building, x -> x.put(6, 8, 2, 1));
        Refused.bad(Scenes::building, x -> x.put(6, 1, 16, 1));
        Refused.bad(Scenes::building, x -> x.put(6, 32, 0, 1));
        Refused.bad(Scenes::building, x -> x.put(6, 64, 0, 1));
        Refused.bad(Scenes::building, x -> x.put(5, 64, 1, 1));
        Refused.bad(() -> {
            SegmentDesk x = Scenes.begun(4);
            x.struct(0, -1, 0, 0, 1);
            return x;
        }, x -> x.put(0, 1, 0, 1));
        Refused.bad(() -> {
            SegmentDesk x = Scenes.begun(4);
            x.list(0, -1, 0, 2, 0, 0, 0);
            return x;
        }, x -> x.put(0, 8, 0, 1));
    }

    private static SegmentDesk forReals() {
        SegmentDesk x = Scenes.begun(6);
        x.struct(0, -1, 0, 2, 1);
        x.put(0, 64, 0, 0x5555555555555555L);
        x.put(0, 64, 1, 0x5555555555555555L);
        return x;
    }

    private static void putNarrow(double v, int bits) {
        SegmentDesk x = forReals();
        Check.fine(() -> x.putReal(0, false, 3, v));
        Check.is(0x5555555555555555L, () -> x.at(0, 1));
        Check.is((long) bits << 32 | 0x55555555L, () -> x.at(0, 2));
        SegmentDesk low = forReals();
        Check.fine(() -> low.putReal(0, false, 2, v));
        Check.is(0x5555555500000000L | bits & 0xFFFFFFFFL, () -> low.at(0, 2));
    }

    private static void putRealFields() {
        double[] wide = {0.0, -0.0, 1, -2.5, 0.1, Double.MAX_VALUE, -Double.MAX_VALUE, Double.MIN_VALUE,
            -Double.MIN_VALUE, Double.MIN_NORMAL, Math.nextDown(Double.MIN_NORMAL), 1e300, 1e-300, 4294967296.0,
            4503599627370496.0, 9007199254740993.0, 0x1p1023, 0x1p-1022, 0x1p-1073};
        for (double v : wide) {
            SegmentDesk x = forReals();
            Check.fine(() -> x.putReal(0, true, 1, v));
            Check.is(0x5555555555555555L, () -> x.at(0, 1));
            Check.is(Double.doubleToRawLongBits(v), () -> x.at(0, 2));
            Check.is(0, () -> x.at(0, 3));
            Check.isReal(v, () -> x.real(0, true, 1));
        }
        for (int exponent = 0; exponent < 2047; exponent++) {
            long bits = (exponent % 2L << 63) | (long) exponent << 52 | 0x000F0E0D0C0B0A09L * exponent >>> 12;
            SegmentDesk x = forReals();
            Check.fine(() -> x.putReal(0, true, 0, Double.longBitsToDouble(bits)));
            Check.is(bits, () -> x.at(0, 1));
        }
        for (int exponent = 0; exponent < 255; exponent++) {
            int bits = exponent % 2 << 31 | exponent << 23 | 0x0B0A09 * exponent >>> 9;
            putNarrow(Float.intBitsToFloat(bits), bits);
        }
        putNarrow(0.0, 0);
        putNarrow(-0.0, 0x80000000);
        putNarrow(1, 0x3F800000);
        putNarrow(-2.5, 0xC0200000);
        // Half way between two floats: the even one.
        putNarrow(1 + 0x1p-24, 0x3F800000);
        putNarrow(1 + 0x3p-24, 0x3F800002);
        putNarrow(16777217, 0x4B800000);
        putNarrow(16777219, 0x4B800002);
        putNarrow(Math.nextUp(1 + 0x1p-24), 0x3F800001);
        putNarrow(Math.nextDown(1 + 0x3p-24), 0x3F800001);
        // The smallest ones, and what is half of them.
        putNarrow(0x1p-126, 0x00800000);
        putNarrow(0x1p-126 - 0x1p-149, 0x007FFFFF);
        putNarrow(0x1p-126 - 0x1p-150, 0x00800000);
        putNarrow(0x1p-149, 1);
        putNarrow(-0x1p-149, 0x80000001);
        putNarrow(0x1p-150, 0);
        putNarrow(Math.nextUp(0x1p-150), 1);
        putNarrow(-0x1p-150, 0x80000000);
        putNarrow(0x3p-150, 2);
        putNarrow(Double.MIN_VALUE, 0);
        putNarrow(-Double.MIN_VALUE, 0x80000000);
        // The greatest, and the last double that goes to it.
        putNarrow(Float.MAX_VALUE, 0x7F7FFFFF);
        putNarrow(-Float.MAX_VALUE, 0xFF7FFFFF);
        putNarrow(Math.nextDown(0x1.ffffffp127), 0x7F7FFFFF);
    }

    private static void badPutReals() {
        for (boolean wide : new boolean[] {false, true}) {
            for (int c : new int[] {-1, 16, MIN, MAX}) {
                Refused.badEverywhere(x -> x.putReal(c, wide, 0, 1));
            }
            for (int n : new int[] {-1, MIN}) {
                Refused.badEverywhere(x -> x.putReal(0, wide, n, 1));
                Refused.bad(Scenes::building, x -> x.putReal(15, wide, n, 1));
            }
            for (int c : new int[] {0, 5, 10, 15}) {
                Refused.bad(Scenes::reading, x -> x.putReal(c, wide, 0, 1));
            }
            Refused.kind(Scenes::building, x -> x.putReal(15, wide, 0, 1));
            Refused.kind(Scenes::building, x -> x.putReal(15, wide, MAX, Double.NaN));
            for (int code = 0; code < 8; code++) {
                int c = code;
                Refused.kind(() -> atList(c), x -> x.putReal(1, wide, 0, 1));
            }
            for (int n : new int[] {wide ? 2 : 4, 0x08000000, 0x40000000, MAX}) {
                Refused.bad(Scenes::building, x -> x.putReal(0, wide, n, 1));
            }
            Refused.bad(Scenes::building, x -> x.putReal(6, wide, 0, 1));
        }
        SegmentDesk x = Scenes.begun(9);
        x.list(0, -1, 0, 4, 2, 0, 0);
        x.element(1, 0, 1);
        Check.fine(() -> x.putReal(1, false, 0, 1));
        Check.is(0x3F80000000000000L, () -> x.at(0, 1));
        Check.bad(() -> x.putReal(1, true, 0, 1));
        Check.bad(() -> x.putReal(1, false, 1, 1));
    }

    private static void putNotFinite() {
        for (double v : new double[] {Double.NaN, Double.POSITIVE_INFINITY, Double.NEGATIVE_INFINITY}) {
            Refused.notFinite(Scenes::building, x -> x.putReal(0, true, 1, v));
            Refused.notFinite(Scenes::building, x -> x.putReal(0, false, 3, v));
            // There is no such field: that comes first.
            Refused.bad(Scenes::building, x -> x.putReal(0, true, 2, v));
            Refused.bad(Scenes::building, x -> x.putReal(0, false, 4, v));
        }
        for (double v : new double[] {0x1.ffffffp127, -0x1.ffffffp127, 0x1p128, 1e300, Double.MAX_VALUE,
            -Double.MAX_VALUE}) {
            Refused.notFinite(Scenes::building, x -> x.putReal(0, false, 0, v));
            SegmentDesk x = Scenes.building();
            Check.fine(() -> x.putReal(0, true, 0, v));
        }
    }
}

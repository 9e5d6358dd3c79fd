/** Promises 1 to 12, and 24. */
final class ReadingSentences {
    private static final int[] BITS = {1, 8, 16, 32, 64};
    private static final int MIN = Integer.MIN_VALUE;
    private static final int MAX = Integer.MAX_VALUE;

    private ReadingSentences() {
    }

    static void all() {
        words();
        roots();
        follows();
        elements();
        numbers();
        reals();
        items();
        looks();
        counts();
    }

    private static void words() {
        Sentences.in("Promise 1");
        Sentences.holds("One SEGMENT without WORDS, not OWN;", ReadingSentences::newMessage);
        Sentences.holds("CURSORS at NOTHING; ALLOWANCE 1000; no octets.", ReadingSentences::newRest);
        Sentences.in("Promise 2");
        Sentences.holds("The MESSAGE has n SEGMENTS of so many WORDS (a for SEGMENT 0, .. d for 3; others are not "
                + "looked at), all 0;", ReadingSentences::segments);
        Sentences.holds("CURSORS at NOTHING.", ReadingSentences::segmentClearsCursors);
        Sentences.holds("BAD: n is not 1..4, or one not 0..64.", ReadingSentences::badSegments);
        Sentences.in("Promise 3");
        Sentences.holds("WORD k of SEGMENT s becomes w: what it was.", ReadingSentences::wordBecomes);
        Sentences.holds("BAD: there is none.", ReadingSentences::badWords);
        Sentences.holds("(CURSORS stay.)", ReadingSentences::wordLetsCursorsStay);
        Sentences.in("Promise 4");
        Sentences.holds("WORD k of SEGMENT s.", ReadingSentences::wordsThere);
        Sentences.holds("BAD likewise.", ReadingSentences::badAt);
        Sentences.in("Promise 5");
        Sentences.holds("The ALLOWANCE is n: what was left.", ReadingSentences::allowances);
        Sentences.holds("BAD: n is not 0..100000.", ReadingSentences::badAllowances);
    }

    private static void roots() {
        Sentences.in("Promise 6");
        Sentences.holds("CURSOR c stands at what the first WORD of SEGMENT 0 leads to, FOLLOWED with a DEPTH: "
                + "NOTHING, STRUCT or LIST.", ReadingSentences::rootLeads);
        Sentences.holds("BAD: c is not 0..15 or depth not 0..64.", ReadingSentences::badRoots);
        Sentences.holds("MALFORMED (also if there is no such WORD);", ReadingSentences::noRoot);
        Sentences.holds("then the CURSOR stays.", ReadingSentences::rootLetsCursorStay);
    }

    private static void follows() {
        Sentences.in("Promise 7");
        Sentences.holds("CURSOR c stands at what POINTER n of the STRUCT of CURSOR from leads to",
                ReadingSentences::followsStruct);
        Sentences.holds("(beyond its POINTERS, and NOTHING's: NOTHING),", ReadingSentences::followsBeyond);
        Sentences.holds("or, of a LIST of POINTERS, element n: where it stands then.", ReadingSentences::followsList);
        Sentences.holds("BAD: a CURSOR is not 0..15, n below 0,", ReadingSentences::badFollows);
        Sentences.holds("or not below the COUNT of that LIST.", ReadingSentences::followsBeyondList);
        Sentences.holds("KIND: another LIST.", ReadingSentences::followsOtherList);
        Sentences.holds("MALFORMED.", ReadingSentences::malformedFollows);
    }

    private static void elements() {
        Sentences.in("Promise 8");
        Sentences.holds("CURSOR c stands at element n of the LIST of CURSOR from, as a STRUCT with the DEPTH of the "
                + "LIST (of CODE 0: at the LIST's place): STRUCT.", ReadingSentences::elementStands);
        Sentences.holds("BAD: a CURSOR is not 0..15.", ReadingSentences::badElements);
        Sentences.holds("KIND: it stands at no LIST.", ReadingSentences::elementOfNoList);
        Sentences.holds("BAD: there is no such element.", ReadingSentences::noSuchElement);
        Sentences.holds("MALFORMED: CODE 1.", ReadingSentences::elementOfBits);
    }

    private static void numbers() {
        Sentences.in("Promise 9");
        Sentences.holds("Field n of bits (1, 8, 16, 32, 64) of the STRUCT of CURSOR c", ReadingSentences::numbersThere);
        Sentences.holds("(of NOTHING: 0),", ReadingSentences::numbersOfNothing);
        Sentences.holds("as a number with sign (1 bit: 0 or 1),", ReadingSentences::numbersWithSign);
        Sentences.holds("exclusive or with mask, which is cut to as many bits before.", ReadingSentences::masks);
        Sentences.holds("BAD: c is not 0..15, bits none of these, or n below 0.", ReadingSentences::badNumbers);
        Sentences.holds("KIND: a LIST.", ReadingSentences::numbersOfLists);
    }

    private static void reals() {
        Sentences.in("Promise 10");
        Sentences.holds("Field n of 32 bits (wide: 64) as a float (double).", ReadingSentences::realsThere);
        Sentences.holds("BAD, KIND likewise.", ReadingSentences::badReals);
        Sentences.holds("ArithmeticException: it is no finite number.", ReadingSentences::notFinite);
    }

    private static void items() {
        Sentences.in("Promise 11");
        Sentences.holds("Element n of the LIST of CODE 0 to 5 of CURSOR c, as a number with sign (CODE 1: 0 or 1; "
                + "0: 0).", ReadingSentences::itemsThere);
        Sentences.holds("BAD: c is not 0..15.", ReadingSentences::badItems);
        Sentences.holds("KIND: no LIST, or CODE 6, 7.", ReadingSentences::itemsOfOthers);
        Sentences.holds("BAD: there is no such element.", ReadingSentences::noSuchItem);
    }

    private static void looks() {
        Sentences.in("Promise 12");
        Sentences.holds("Of CURSOR c what 0: where it stands; 1: its DEPTH; 2: SEGMENT, 3: place (of the first WORD, "
                + "CODE 7: of the TAG;", ReadingSentences::looksAtPlaces);
        Sentences.holds("a STRUCT that is an element of CODE 2 to 5: that of its WORD);",
                ReadingSentences::looksAtElements);
        Sentences.holds("4: DATA in bits, 5: POINTERS of a STRUCT; 6: COUNT (CODE 7: of STRUCTS), 7: CODE of a LIST.",
                ReadingSentences::looksAtSizes);
        Sentences.holds("0 where there is no such thing.", ReadingSentences::looksAtNothing);
        Sentences.holds("BAD: c, what not 0..7.", ReadingSentences::badLooks);
    }

    private static void counts() {
        Sentences.in("Promise 24");
        Sentences.holds("What 0: SEGMENTS; 1: octets; 2: ALLOWANCE; 3: 1 if it is OWN, else 0;",
                ReadingSentences::countsOfAll);
        Sentences.holds("4 to 7: WORDS of SEGMENT 0 to 3, 0 if it is not there;", ReadingSentences::countsOfWords);
        Sentences.holds("8: SIZE, 0 if it is not OWN.", ReadingSentences::countsOfSize);
        Sentences.holds("BAD for others.", ReadingSentences::badCounts);
    }

    static void countsAre(SegmentDesk x, int... due) {
        for (int what = 0; what < due.length; what++) {
            int w = what;
            Check.is(due[w], () -> x.count(w));
        }
    }

    /** Nothing is left of where they stood before: no DATA, and no POINTERS. */
    static void allAtNothing(SegmentDesk x) {
        for (int c = 0; c < 16; c++) {
            int cursor = c;
            PointerSentences.cursorIs(x, c, 0, 0, 0, 0, 0, 0, 0, 0);
            Check.is(0, () -> x.number(cursor, 64, 0, 0));
            Check.is(0, () -> x.follow(cursor, cursor, 0));
        }
    }

    private static void newMessage() {
        SegmentDesk x = new SegmentDesk();
        Check.is(1, () -> x.count(0));
        Check.is(0, () -> x.count(4));
        Check.bad(() -> x.at(0, 0));
        Check.bad(() -> x.at(1, 0));
        Check.is(0, () -> x.count(3));
        Check.is(0, () -> x.count(8));
        Refused.bad(SegmentDesk::new, y -> y.struct(0, -1, 0, 0, 0));
        Refused.bad(SegmentDesk::new, y -> y.list(0, -1, 0, 0, 0, 0, 0));
    }

    private static void newRest() {
        SegmentDesk x = new SegmentDesk();
        allAtNothing(x);
        Check.is(1000, () -> x.count(2));
        Check.is(1000, () -> x.allow(1));
        Check.is(0, () -> x.count(1));
        Check.bad(() -> x.octet(0));
        Check.is(0, () -> x.drop());
        SegmentDesk second = new SegmentDesk();
        Check.is(1000, () -> second.count(2));
    }

    private static void segments() {
        int[] most = {64, 0, 1, 63};
        for (int n = 1; n <= 4; n++) {
            int segments = n;
            SegmentDesk x = new SegmentDesk();
            x.segment(4, 64, 64, 64, 64);
            for (int s = 0; s < 4; s++) {
                x.word(s, 0, -1);
                x.word(s, 63, -1);
            }
            Check.fine(() -> x.segment(segments, most[0], most[1], most[2], most[3]));
            Check.is(n, () -> x.count(0));
            for (int s = 0; s < 4; s++) {
                Words.are(x, s, new long[s < n ? most[s] : 0]);
            }
            Check.bad(() -> x.at(segments, 0));
        }
        int[] wild = {-1, 65, MIN, MAX};
        for (int other : wild) {
            SegmentDesk x = new SegmentDesk();
            Check.fine(() -> x.segment(1, 2, other, other, other));
            countsAre(x, 1, 0, 1000, 0, 2, 0, 0, 0, 0);
            Check.fine(() -> x.segment(2, 2, 3, other, other));
            countsAre(x, 2, 0, 1000, 0, 2, 3, 0, 0, 0);
            Check.fine(() -> x.segment(3, 2, 3, 4, other));
            countsAre(x, 3, 0, 1000, 0, 2, 3, 4, 0, 0);
        }
    }

    private static void segmentClearsCursors() {
        for (Scenes.Scene scene : Scenes.ALL) {
            SegmentDesk x = scene.make();
            int octets = x.count(1);
            int allowance = x.count(2);
            x.segment(1, 3, 0, 0, 0);
            allAtNothing(x);
            countsAre(x, 1, octets, allowance, 0, 3, 0, 0, 0, 0);
        }
    }

    private static void badSegments() {
        for (int n : new int[] {0, 5, -1, MIN, MAX}) {
            Refused.badEverywhere(x -> x.segment(n, 1, 1, 1, 1));
        }
        for (int bad : new int[] {-1, 65, MIN, MAX}) {
            for (int n = 1; n <= 4; n++) {
                int segments = n;
                Refused.badEverywhere(x -> x.segment(segments, bad, 1, 1, 1));
                if (n >= 2) {
                    Refused.badEverywhere(x -> x.segment(segments, 1, bad, 1, 1));
                }
                if (n >= 3) {
                    Refused.badEverywhere(x -> x.segment(segments, 1, 1, bad, 1));
                }
            }
            Refused.badEverywhere(x -> x.segment(4, 1, 1, 1, bad));
        }
    }

    private static void wordBecomes() {
        SegmentDesk x = new SegmentDesk();
        x.segment(4, 2, 1, 64, 1);
        Check.is(0, () -> x.word(2, 63, Long.MIN_VALUE));
        Check.is(Long.MIN_VALUE, () -> x.word(2, 63, -1));
        Check.is(-1, () -> x.at(2, 63));
        Check.is(0, () -> x.at(2, 62));
        Check.is(0, () -> x.word(0, 1, 5));
        Check.is(0, () -> x.word(3, 0, 6));
        Words.are(x, 0, 0, 5);
        Words.are(x, 1, 0);
        Words.are(x, 3, 6);
        SegmentDesk own = Scenes.begun(9);
        Check.is(0, () -> own.word(0, 0, 0));
        Check.is(0, () -> own.count(3));
    }

    /** One beyond each edge of what there is, and far beyond. */
    private static int[][] placesOutside(SegmentDesk x) {
        int n = x.count(0);
        int[][] places = new int[8 + n][];
        for (int s = 0; s < n; s++) {
            places[s] = new int[] {s, x.count(4 + s)};
        }
        places[n] = new int[] {n, 0};
        places[n + 1] = new int[] {-1, 0};
        places[n + 2] = new int[] {0, -1};
        places[n + 3] = new int[] {4, 0};
        places[n + 4] = new int[] {0, 64};
        places[n + 5] = new int[] {0, MAX};
        places[n + 6] = new int[] {0, MIN};
        places[n + 7] = new int[] {MAX, MIN};
        return places;
    }

    private static void badWords() {
        for (Scenes.Scene scene : Scenes.ALL) {
            for (int[] place : placesOutside(scene.make())) {
                Refused.bad(scene, x -> x.word(place[0], place[1], 5));
            }
        }
    }

    private static void wordLetsCursorsStay() {
        SegmentDesk x = Scenes.reading();
        SegmentDesk same = Scenes.reading();
        x.word(0, 16, -1);
        x.word(0, 0, 0);
        for (int c = 0; c < 16; c++) {
            for (int what = 0; what < 8; what++) {
                int cursor = c;
                int w = what;
                Check.is(same.look(c, what), () -> x.look(cursor, w));
            }
        }
        x.word(0, 1, 77);
        Check.is(77, () -> x.number(0, 64, 0, 0));
        SegmentDesk own = Scenes.building();
        own.word(1, 0, 0);
        Check.is(2, () -> own.look(3, 6));
        Check.is(1, () -> own.look(7, 0));
    }

    private static void wordsThere() {
        SegmentDesk x = new SegmentDesk();
        x.segment(2, 64, 2, 0, 0);
        x.word(0, 63, 11);
        x.word(1, 0, 12);
        x.word(1, 1, -13);
        Check.is(11, () -> x.at(0, 63));
        Check.is(12, () -> x.at(1, 0));
        Check.is(-13, () -> x.at(1, 1));
        SegmentDesk own = Scenes.begun(9);
        Check.is(0, () -> own.at(0, 0));
        Check.is(1, () -> own.count(3));
    }

    private static void badAt() {
        for (Scenes.Scene scene : Scenes.ALL) {
            for (int[] place : placesOutside(scene.make())) {
                Refused.bad(scene, x -> x.at(place[0], place[1]));
            }
        }
        // There is room in an OWN SEGMENT, but no WORD there.
        Refused.bad(() -> Scenes.begun(9), x -> x.at(0, 1));
    }

    private static void allowances() {
        SegmentDesk x = Words.desk(Words.struct(0, 2, 0), 0, 0);
        Check.is(1000, () -> x.allow(0));
        Check.is(0, () -> x.allow(100000));
        x.root(0, 1);
        Check.is(99998, () -> x.count(2));
        Check.is(99998, () -> x.allow(2));
        x.root(0, 1);
        Check.is(0, () -> x.allow(1));
        Check.is(1, () -> x.count(2));
    }

    private static void badAllowances() {
        for (int n : new int[] {-1, 100001, MIN, MAX}) {
            Refused.badEverywhere(x -> x.allow(n));
        }
    }

    private static void rootLeads() {
        SegmentDesk x = new SegmentDesk();
        x.segment(2, 3, 3, 0, 0);
        x.word(1, 0, 3);
        x.word(0, 0, Words.list(0, 5, 2));
        Check.is(SegmentDesk.LIST, () -> x.root(15, 64));
        PointerSentences.cursorIs(x, 15, 2, 63, 0, 1, 0, 0, 2, 5);
        x.word(0, 0, Words.struct(1, 1, 0));
        Check.is(SegmentDesk.STRUCT, () -> x.root(0, 1));
        PointerSentences.cursorIs(x, 0, 1, 0, 0, 2, 64, 0, 0, 0);
        x.word(0, 0, 0);
        Check.is(SegmentDesk.NOTHING, () -> x.root(15, 64));
        PointerSentences.cursorIs(x, 15, 0, 0, 0, 0, 0, 0, 0, 0);
        PointerSentences.cursorIs(x, 0, 1, 0, 0, 2, 64, 0, 0, 0);
    }

    private static void badRoots() {
        for (int c : new int[] {-1, 16, MIN, MAX}) {
            Refused.badEverywhere(x -> x.root(c, 1));
        }
        for (int depth : new int[] {-1, 65, MIN, MAX}) {
            Refused.badEverywhere(x -> x.root(0, depth));
        }
    }

    private static void noRoot() {
        Refused.malformed(Scenes::rootless, x -> x.root(3, 5));
        Refused.malformed(SegmentDesk::new, x -> x.root(0, 0));
        Refused.malformed(() -> Words.desk(3), x -> x.root(0, 64));
    }

    private static void rootLetsCursorStay() {
        for (long bad : new long[] {3, Words.struct(0, 64, 0), Words.far(9, 0), Words.list(0, 0, 1001)}) {
            Refused.malformed(() -> {
                SegmentDesk x = Scenes.reading();
                x.word(0, 0, bad);
                return x;
            }, x -> x.root(12, 9));
        }
        Refused.malformed(Scenes::reading, x -> x.root(10, 0));
    }

    private static void followsStruct() {
        SegmentDesk x = Scenes.reading();
        Check.is(SegmentDesk.LIST, () -> x.follow(15, 0, 0));
        PointerSentences.cursorIs(x, 15, 2, 8, 0, 12, 0, 0, 5, 0);
        Check.is(SegmentDesk.LIST, () -> x.follow(15, 0, 8));
        PointerSentences.cursorIs(x, 15, 2, 8, 1, 2, 0, 0, 2, 5);
        Check.is(SegmentDesk.STRUCT, () -> x.follow(15, 12, 0));
        PointerSentences.cursorIs(x, 15, 1, 7, 1, 2, 128, 1, 0, 0);
        Check.is(SegmentDesk.NOTHING, () -> x.follow(15, 15, 0));
        PointerSentences.cursorIs(x, 15, 0, 0, 0, 0, 0, 0, 0, 0);
        Check.is(SegmentDesk.LIST, () -> x.follow(0, 0, 5));
        PointerSentences.cursorIs(x, 0, 2, 8, 0, 12, 0, 0, 2, 5);
    }

    private static void followsBeyond() {
        for (int n : new int[] {10, 11, 64, MAX}) {
            SegmentDesk x = Scenes.reading();
            int allowance = x.count(2);
            Check.is(SegmentDesk.NOTHING, () -> x.follow(3, 0, n));
            PointerSentences.cursorIs(x, 3, 0, 0, 0, 0, 0, 0, 0, 0);
            Check.is(allowance, () -> x.count(2));
        }
        for (int n : new int[] {0, 1, MAX}) {
            SegmentDesk x = Scenes.reading();
            Check.is(SegmentDesk.NOTHING, () -> x.follow(3, 15, n));
            Check.is(SegmentDesk.NOTHING, () -> x.look(3, 0));
            // An element of numbers has no POINTERS, though a WORD lies there.
            Check.is(SegmentDesk.NOTHING, () -> x.follow(4, 10, n));
            Check.is(SegmentDesk.NOTHING, () -> x.follow(4, 14, n));
            // Nor has a CURSOR that stood at a STRUCT before.
            Check.is(SegmentDesk.NOTHING, () -> x.follow(0, 0, 10));
            Check.is(SegmentDesk.NOTHING, () -> x.follow(5, 0, n));
        }
    }

    private static void followsList() {
        SegmentDesk x = Scenes.reading();
        Check.is(SegmentDesk.STRUCT, () -> x.follow(15, 7, 0));
        PointerSentences.cursorIs(x, 15, 1, 7, 0, 1, 64, 0, 0, 0);
        Check.is(SegmentDesk.NOTHING, () -> x.follow(15, 7, 1));
        PointerSentences.cursorIs(x, 15, 0, 0, 0, 0, 0, 0, 0, 0);
    }

    private static void badFollows() {
        for (int c : new int[] {-1, 16, MIN, MAX}) {
            Refused.badEverywhere(x -> x.follow(c, 0, 0));
            Refused.badEverywhere(x -> x.follow(0, c, 0));
        }
        for (int n : new int[] {-1, MIN}) {
            for (int from = 0; from < 16; from++) {
                int cursor = from;
                Refused.bad(Scenes::reading, x -> x.follow(15, cursor, n));
            }
        }
    }

    private static void followsBeyondList() {
        for (int n : new int[] {2, 3, MAX}) {
            Refused.bad(Scenes::reading, x -> x.follow(15, 7, n));
        }
        Refused.bad(() -> {
            SegmentDesk x = Words.desk(Words.list(0, 6, 0), 0);
            x.root(0, 9);
            return x;
        }, x -> x.follow(1, 0, 0));
    }

    private static void followsOtherList() {
        for (int list : new int[] {1, 2, 3, 4, 5, 6, 8, 9}) {
            Refused.kind(Scenes::reading, x -> x.follow(15, list, 0));
            Refused.kind(Scenes::reading, x -> x.follow(list, list, 1));
            Refused.kind(Scenes::reading, x -> x.follow(15, list, MAX));
        }
    }

    private static void malformedFollows() {
        Refused.malformed(Scenes::reading, x -> x.follow(15, 0, 9));
        Refused.malformed(Scenes::reading, x -> x.follow(0, 0, 9));
        Refused.malformed(() -> {
            SegmentDesk x = Scenes.reading();
            x.allow(4);
            return x;
        }, x -> x.follow(15, 0, 7));
        Refused.malformed(() -> {
            SegmentDesk x = Scenes.reading();
            x.root(0, 1);
            return x;
        }, x -> x.follow(15, 0, 0));
    }

    private static void elementStands() {
        SegmentDesk x = Scenes.reading();
        Check.is(1, () -> x.element(15, 1, 0));
        PointerSentences.cursorIs(x, 15, 1, 8, 0, 12, 0, 0, 0, 0);
        Check.is(1, () -> x.element(15, 3, 8));
        PointerSentences.cursorIs(x, 15, 1, 8, 0, 13, 8, 0, 0, 0);
        Check.is(-8, () -> x.number(15, 8, 0, 0));
        Check.is(1, () -> x.element(15, 9, 1));
        PointerSentences.cursorIs(x, 15, 1, 8, 1, 3, 64, 0, 0, 0);
        Check.is(1, () -> x.element(8, 8, 1));
        PointerSentences.cursorIs(x, 8, 1, 8, 0, 19, 64, 1, 0, 0);
        // With DEPTH 0 there are elements still; it costs nothing.
        SegmentDesk flat = Words.desk(Words.list(0, 6, 1), 0);
        flat.root(0, 1);
        flat.allow(0);
        Check.is(1, () -> flat.element(1, 0, 0));
        Check.is(0, () -> flat.look(1, 1));
    }

    private static void badElements() {
        for (int c : new int[] {-1, 16, MIN, MAX}) {
            Refused.badEverywhere(x -> x.element(c, 0, 0));
            Refused.badEverywhere(x -> x.element(0, c, 0));
        }
    }

    private static void elementOfNoList() {
        for (int from : new int[] {0, 10, 11, 12, 13, 14, 15}) {
            for (int n : new int[] {0, -1, MAX}) {
                Refused.kind(Scenes::reading, x -> x.element(5, from, n));
            }
        }
    }

    private static void noSuchElement() {
        int[] count = {0, 5, 70, 9, 5, 3, 2, 2, 2, 2};
        for (int list = 1; list <= 9; list++) {
            int from = list;
            SegmentDesk x = Scenes.reading();
            if (list != 2) {
                Check.is(1, () -> x.element(15, from, count[from] - 1));
            }
            for (int n : new int[] {count[list], -1, MIN, MAX}) {
                Refused.bad(Scenes::reading, y -> y.element(15, from, n));
            }
        }
        Refused.bad(() -> {
            SegmentDesk x = Words.desk(Words.list(0, 7, 1), Words.struct(0, 1, 0), 5);
            x.root(0, 9);
            return x;
        }, x -> x.element(1, 0, 0));
    }

    private static void elementOfBits() {
        for (int n : new int[] {0, 1, 63, 64, 69}) {
            Refused.malformed(Scenes::reading, x -> x.element(15, 2, n));
            Refused.malformed(Scenes::reading, x -> x.element(2, 2, n));
        }
    }

    private static SegmentDesk atData(long... data) {
        long[] words = new long[data.length + 1];
        words[0] = Words.struct(0, data.length, 0);
        System.arraycopy(data, 0, words, 1, data.length);
        SegmentDesk x = Words.desk(words);
        x.root(0, 1);
        return x;
    }

    private static void numbersThere() {
        SegmentDesk x = atData(0x8877665544332211L, 0x0F0E0D0C0B0A0908L);
        Check.is(0x11, () -> x.number(0, 8, 0, 0));
        Check.is(0x0F, () -> x.number(0, 8, 15, 0));
        Check.is(0x2211, () -> x.number(0, 16, 0, 0));
        Check.is(0x0F0E, () -> x.number(0, 16, 7, 0));
        Check.is(0x44332211, () -> x.number(0, 32, 0, 0));
        Check.is(0x0F0E0D0C, () -> x.number(0, 32, 3, 0));
        Check.is(0x8877665544332211L, () -> x.number(0, 64, 0, 0));
        Check.is(0x0F0E0D0C0B0A0908L, () -> x.number(0, 64, 1, 0));
        Check.is(1, () -> x.number(0, 1, 0, 0));
        Check.is(0, () -> x.number(0, 1, 127, 0));
        Check.is(1, () -> x.number(0, 1, 123, 0));
        for (int bits : BITS) {
            Check.is(0, () -> x.number(0, bits, 128 / bits, 0));
            Check.is(0, () -> x.number(0, bits, MAX, 0));
        }
        SegmentDesk elements = Scenes.reading();
        Check.is(0x05, () -> elements.number(10, 8, 0, 0));
        Check.is(8, () -> elements.number(12, 64, 0, 0));
        Check.is(0, () -> elements.number(12, 64, 1, 0));
        Check.is(0, () -> elements.number(14, 1, 0, 0));
    }

    private static void numbersOfNothing() {
        SegmentDesk x = Scenes.reading();
        for (int bits : BITS) {
            Check.is(0, () -> x.number(15, bits, 0, 0));
            Check.is(0, () -> x.number(15, bits, MAX, 0));
            Check.is(1, () -> x.number(15, bits, 3, 1));
        }
        // Also where the CURSOR stood at a STRUCT or an element before.
        for (int c : new int[] {0, 10, 12, 13}) {
            Check.is(SegmentDesk.NOTHING, () -> x.follow(c, c, 64));
            Check.is(0, () -> x.number(c, 8, 0, 0));
            Check.is(0, () -> x.number(c, 1, 0, 0));
            Check.isReal(0.0, () -> x.real(c, false, 0));
        }
        SegmentDesk odd = Words.desk(Words.list(0, 6, 1), 0);
        odd.root(0, 9);
        odd.follow(1, 0, 0);
        Check.is(0, () -> odd.number(1, 1, 0, 0));
    }

    private static void numbersWithSign() {
        SegmentDesk low = atData(Long.MIN_VALUE | 0x8080);
        Check.is(-128, () -> low.number(0, 8, 0, 0));
        Check.is(-128, () -> low.number(0, 8, 7, 0));
        Check.is(-32640, () -> low.number(0, 16, 0, 0));
        Check.is(-32768, () -> low.number(0, 16, 3, 0));
        Check.is(Integer.MIN_VALUE, () -> low.number(0, 32, 1, 0));
        Check.is(Long.MIN_VALUE | 0x8080, () -> low.number(0, 64, 0, 0));
        Check.is(1, () -> low.number(0, 1, 7, 0));
        Check.is(1, () -> low.number(0, 1, 63, 0));
        SegmentDesk high = atData(0x7FFFFFFFFFFF7F7FL);
        Check.is(127, () -> high.number(0, 8, 0, 0));
        Check.is(0x7F7F, () -> high.number(0, 16, 0, 0));
        Check.is(-1, () -> high.number(0, 16, 1, 0));
        Check.is(Integer.MAX_VALUE, () -> high.number(0, 32, 1, 0));
        Check.is(0x7FFFFFFFFFFF7F7FL, () -> high.number(0, 64, 0, 0));
    }

    private static void masks() {
        SegmentDesk x = atData(0x8877665544332211L);
        Check.is(0x11 ^ 0x7F, () -> x.number(0, 8, 0, 0x7F));
        Check.is((byte) (0x11 ^ 0x80), () -> x.number(0, 8, 0, 0x80));
        Check.is((byte) (0x88 ^ 0xFF), () -> x.number(0, 8, 7, 0xFF));
        Check.is(0x11, () -> x.number(0, 8, 0, 0xFFFFFFFFFFFFFF00L));
        Check.is((short) ~0x2211, () -> x.number(0, 16, 0, -1));
        Check.is(0x2211, () -> x.number(0, 16, 0, 0xFFFF0000L));
        Check.is(~0x44332211, () -> x.number(0, 32, 0, -1));
        Check.is(0x44332211, () -> x.number(0, 32, 0, 0xFFFFFFFF00000000L));
        Check.is(~0x8877665544332211L, () -> x.number(0, 64, 0, -1));
        Check.is(0, () -> x.number(0, 1, 0, 1));
        Check.is(1, () -> x.number(0, 1, 0, 2));
        Check.is(1, () -> x.number(0, 1, 1, 3));
        Check.is(0, () -> x.number(0, 1, 0, -1));
        // Beyond the DATA the mask is all there is.
        Check.is(-1, () -> x.number(0, 8, 8, 0x1FF));
        Check.is(0, () -> x.number(0, 8, 8, 0x100));
        Check.is(Long.MIN_VALUE, () -> x.number(0, 64, 1, Long.MIN_VALUE));
        Check.is(-32768, () -> x.number(9, 16, 0, 0x8000));
    }

    private static void badNumbers() {
        for (int c : new int[] {-1, 16, MIN, MAX}) {
            Refused.badEverywhere(x -> x.number(c, 8, 0, 0));
        }
        for (int bits : new int[] {0, 2, 4, 7, 9, 24, 63, 65, 128, -1, -8, MIN, MAX}) {
            Refused.badEverywhere(x -> x.number(0, bits, 0, 0));
            Refused.bad(Scenes::reading, x -> x.number(5, bits, 0, 0));
        }
        for (int bits : BITS) {
            Refused.badEverywhere(x -> x.number(0, bits, -1, 0));
            Refused.badEverywhere(x -> x.number(15, bits, MIN, 0));
            Refused.bad(Scenes::reading, x -> x.number(5, bits, -1, 0));
        }
    }

    private static void numbersOfLists() {
        for (int list = 1; list <= 9; list++) {
            int c = list;
            for (int bits : BITS) {
                Refused.kind(Scenes::reading, x -> x.number(c, bits, 0, 0));
            }
            Refused.kind(Scenes::reading, x -> x.number(c, 64, MAX, 0));
        }
    }

    private static void realsThere() {
        double[] wide = {0.0, -0.0, 1.5, -1e300, Double.MAX_VALUE, -Double.MAX_VALUE, Double.MIN_VALUE,
            -Double.MIN_VALUE, Double.MIN_NORMAL, Math.nextDown(Double.MIN_NORMAL)};
        for (double v : wide) {
            SegmentDesk x = atData(-1, Double.doubleToRawLongBits(v));
            Check.isReal(v, () -> x.real(0, true, 1));
        }
        float[] narrow = {0f, -0f, 1.5f, -1e30f, Float.MAX_VALUE, -Float.MAX_VALUE, Float.MIN_VALUE,
            -Float.MIN_VALUE, Float.MIN_NORMAL, Math.nextDown(Float.MIN_NORMAL)};
        for (float v : narrow) {
            SegmentDesk x = atData(0xFFFFFFFFL, -1L << 32 | Float.floatToRawIntBits(v) & 0xFFFFFFFFL);
            Check.isReal(v, () -> x.real(0, false, 2));
        }
        for (int exponent = 0; exponent < 2047; exponent++) {
            long bits = (exponent % 2L << 63) | (long) exponent << 52 | 0x000F0E0D0C0B0A09L * exponent >>> 12;
            SegmentDesk every = atData(bits);
            Check.isReal(Double.longBitsToDouble(bits), () -> every.real(0, true, 0));
        }
        for (int exponent = 0; exponent < 255; exponent++) {
            int bits = exponent % 2 << 31 | exponent << 23 | 0x0B0A09 * exponent >>> 9;
            SegmentDesk every = atData((long) bits << 32);
            Check.isReal(Float.intBitsToFloat(bits), () -> every.real(0, false, 1));
        }
        SegmentDesk x = atData(-1);
        Check.isReal(0.0, () -> x.real(0, true, 1));
        Check.isReal(0.0, () -> x.real(0, true, MAX));
        Check.isReal(0.0, () -> x.real(0, false, 2));
        Check.isReal(0.0, () -> x.real(0, false, MAX));
        Check.isReal(0.0, () -> x.real(9, true, 0));
        Check.isReal(0.0, () -> x.real(9, false, 0));
        // An element of 8 bits holds no float.
        SegmentDesk reading = Scenes.reading();
        Check.isReal(0.0, () -> reading.real(10, false, 0));
        reading.element(15, 5, 2);
        Check.isReal(Float.intBitsToFloat(0xF5F6F7F8), () -> reading.real(15, false, 0));
        Check.isReal(0.0, () -> reading.real(15, true, 0));
    }

    private static void badReals() {
        for (boolean wide : new boolean[] {false, true}) {
            for (int c : new int[] {-1, 16, MIN, MAX}) {
                Refused.badEverywhere(x -> x.real(c, wide, 0));
            }
            for (int n : new int[] {-1, MIN}) {
                Refused.badEverywhere(x -> x.real(0, wide, n));
                Refused.bad(Scenes::reading, x -> x.real(6, wide, n));
            }
            for (int list = 1; list <= 9; list++) {
                int c = list;
                Refused.kind(Scenes::reading, x -> x.real(c, wide, 0));
                Refused.kind(Scenes::reading, x -> x.real(c, wide, MAX));
            }
        }
    }

    private static void notFinite() {
        for (long bits : new long[] {0x7FF0000000000000L, 0xFFF0000000000000L, 0x7FF0000000000001L,
            0x7FF8000000000000L, -1}) {
            Refused.notFinite(() -> atData(0, bits), x -> x.real(0, true, 1));
        }
        for (long bits : new long[] {0x7F800000L, 0xFF800000L, 0x7F800001L, 0x7FC00000L, 0xFFFFFFFFL}) {
            Refused.notFinite(() -> atData(bits), x -> x.real(0, false, 0));
            Refused.notFinite(() -> atData(bits << 32), x -> x.real(0, false, 1));
        }
        // One below is finite; and what makes a double none does not make a float none.
        SegmentDesk most = atData(0x7FEFFFFFFFFFFFFFL, 0x7F7FFFFFL, 0x7FF0000000000000L);
        Check.isReal(Double.MAX_VALUE, () -> most.real(0, true, 0));
        Check.isReal(Float.MAX_VALUE, () -> most.real(0, false, 2));
        Check.isReal(0.0, () -> most.real(0, false, 4));
    }

    private static void itemsThere() {
        SegmentDesk x = Scenes.reading();
        Check.is(0, () -> x.item(1, 0));
        Check.is(0, () -> x.item(1, 4));
        Check.is(0, () -> x.item(2, 0));
        Check.is(1, () -> x.item(2, 3));
        Check.is(1, () -> x.item(2, 69));
        Check.is(8, () -> x.item(3, 0));
        Check.is(1, () -> x.item(3, 7));
        Check.is(-8, () -> x.item(3, 8));
        Check.is(0x0708, () -> x.item(4, 0));
        Check.is((short) 0xF7F8, () -> x.item(4, 4));
        Check.is(0x05060708, () -> x.item(5, 0));
        Check.is(0xF5F6F7F8, () -> x.item(5, 2));
        Check.is(0x0102030405060708L, () -> x.item(6, 0));
        Check.is(0xF1F2F3F4F5F6F7F8L, () -> x.item(6, 1));
        Check.is(-2, () -> x.item(9, 0));
    }

    private static void badItems() {
        for (int c : new int[] {-1, 16, MIN, MAX}) {
            Refused.badEverywhere(x -> x.item(c, 0));
        }
    }

    private static void itemsOfOthers() {
        for (int c : new int[] {0, 7, 8, 10, 11, 12, 13, 14, 15}) {
            for (int n : new int[] {0, -1, 2, MAX}) {
                Refused.kind(Scenes::reading, x -> x.item(c, n));
            }
        }
    }

    private static void noSuchItem() {
        int[] count = {0, 5, 70, 9, 5, 3, 2, 0, 0, 2};
        for (int list : new int[] {1, 2, 3, 4, 5, 6, 9}) {
            SegmentDesk x = Scenes.reading();
            Check.fine(() -> x.item(list, count[list] - 1));
            for (int n : new int[] {count[list], -1, MIN, MAX}) {
                Refused.bad(Scenes::reading, y -> y.item(list, n));
            }
        }
        for (int code = 0; code <= 5; code++) {
            int c = code;
            Refused.bad(() -> {
                SegmentDesk x = Words.desk(Words.list(0, c, 0), -1);
                x.root(0, 1);
                return x;
            }, x -> x.item(0, 0));
        }
    }

    private static void looksAtPlaces() {
        SegmentDesk x = Scenes.reading();
        PointerSentences.cursorIs(x, 0, 1, 9, 0, 1, 64, 10, 0, 0);
        PointerSentences.cursorIs(x, 3, 2, 8, 0, 12, 0, 0, 9, 2);
        PointerSentences.cursorIs(x, 8, 2, 8, 0, 16, 0, 0, 2, 7);
        PointerSentences.cursorIs(x, 9, 2, 8, 1, 2, 0, 0, 2, 5);
        PointerSentences.cursorIs(x, 13, 1, 7, 1, 2, 128, 1, 0, 0);
        SegmentDesk own = Scenes.building();
        PointerSentences.cursorIs(own, 0, 1, 64, 0, 1, 128, 3, 0, 0);
        PointerSentences.cursorIs(own, 2, 1, 64, 1, 1, 192, 2, 0, 0);
        PointerSentences.cursorIs(own, 3, 2, 64, 1, 6, 0, 0, 2, 7);
        PointerSentences.cursorIs(own, 4, 2, 64, 0, 9, 0, 0, 2, 6);
        PointerSentences.cursorIs(own, 7, 1, 4, 0, 1, 128, 3, 0, 0);
    }

    private static void looksAtElements() {
        SegmentDesk x = Scenes.reading();
        int[][] last = {{3, 7, 8}, {4, 3, 4}, {5, 1, 2}, {6, 0, 1}};
        for (int[] list : last) {
            Check.is(1, () -> x.element(15, list[0], list[1]));
            Check.is(12, () -> x.look(15, 3));
            Check.is(1, () -> x.element(15, list[0], list[2]));
            Check.is(13, () -> x.look(15, 3));
        }
        PointerSentences.cursorIs(Scenes.building(), 6, 1, 64, 0, 6, 16, 0, 0, 0);
    }

    private static void looksAtSizes() {
        SegmentDesk x = Scenes.reading();
        PointerSentences.cursorIs(x, 10, 1, 8, 0, 12, 8, 0, 0, 0);
        PointerSentences.cursorIs(x, 11, 1, 8, 0, 14, 0, 1, 0, 0);
        PointerSentences.cursorIs(x, 12, 1, 8, 0, 19, 64, 1, 0, 0);
        PointerSentences.cursorIs(x, 14, 1, 8, 0, 12, 0, 0, 0, 0);
        int[] count = {5, 70, 9, 5, 3, 2, 2, 2};
        for (int code = 0; code < 8; code++) {
            int c = code;
            Check.is(count[c], () -> x.look(1 + c, 6));
            Check.is(c, () -> x.look(1 + c, 7));
        }
    }

    private static void looksAtNothing() {
        SegmentDesk x = Scenes.reading();
        PointerSentences.cursorIs(x, 15, 0, 0, 0, 0, 0, 0, 0, 0);
        x.follow(13, 13, 0);
        PointerSentences.cursorIs(x, 13, 0, 0, 0, 0, 0, 0, 0, 0);
        for (int c = 1; c <= 9; c++) {
            int list = c;
            Check.is(0, () -> x.look(list, 4));
            Check.is(0, () -> x.look(list, 5));
        }
        for (int c : new int[] {0, 10, 11, 12, 14}) {
            Check.is(0, () -> x.look(c, 6));
            Check.is(0, () -> x.look(c, 7));
        }
    }

    private static void badLooks() {
        for (int c : new int[] {-1, 16, MIN, MAX}) {
            Refused.badEverywhere(x -> x.look(c, 0));
        }
        for (int what : new int[] {-1, 8, MIN, MAX}) {
            Refused.badEverywhere(x -> x.look(0, what));
            Refused.badEverywhere(x -> x.look(15, what));
        }
    }

    private static void countsOfAll() {
        countsAre(new SegmentDesk(), 1, 0, 1000, 0);
        countsAre(Scenes.reading(), 3, 4, 1000 - 11 - 5 - 6 * 2 - 5 - 2 - 3, 0);
        countsAre(Scenes.building(), 2, Scenes.building().pack(), 995, 1);
        countsAre(Scenes.crowded(), 4, 1500, 1000, 1);
        countsAre(Scenes.rootless(), 2, 0, 7, 0);
    }

    private static void countsOfWords() {
        countsAre(new SegmentDesk(), 1, 0, 1000, 0, 0, 0, 0, 0);
        SegmentDesk x = Scenes.reading();
        int[] due = {21, 5, 2, 0};
        for (int s = 0; s < 4; s++) {
            int segment = s;
            Check.is(due[s], () -> x.count(4 + segment));
        }
        SegmentDesk own = Scenes.building();
        Check.is(11, () -> own.count(4));
        Check.is(11, () -> own.count(5));
        Check.is(0, () -> own.count(6));
        Check.is(0, () -> own.count(7));
        SegmentDesk full = new SegmentDesk();
        full.segment(4, 64, 0, 63, 1);
        countsAre(full, 4, 0, 1000, 0, 64, 0, 63, 1);
    }

    private static void countsOfSize() {
        for (int size : new int[] {1, 2, 64}) {
            SegmentDesk x = Scenes.begun(size);
            Check.is(size, () -> x.count(8));
            x.word(0, 0, 0);
            Check.is(0, () -> x.count(8));
        }
        Check.is(0, () -> new SegmentDesk().count(8));
        Check.is(0, () -> Scenes.reading().count(8));
        Check.is(12, () -> Scenes.building().count(8));
    }

    private static void badCounts() {
        for (int what : new int[] {-1, 9, 10, MIN, MAX}) {
            Refused.badEverywhere(x -> x.count(what));
        }
    }
}

/** Promise 23, and the order of the exceptions. */
final class CanonicalSentences {
    private CanonicalSentences() {
    }

    static void all() {
        Sentences.in("Promise 23");
        Sentences.holds("The MESSAGE is made CANONICAL: one SEGMENT, with a POINTER and what it leads to behind it,",
                CanonicalSentences::oneSegment);
        Sentences.holds("each thing in the order in which it is come to:", CanonicalSentences::inOrder);
        Sentences.holds("a STRUCT without the last WORDS of its DATA that are 0 and its last POINTERS that are "
                + "NOTHING,", CanonicalSentences::structs);
        Sentences.holds("then what its POINTERS lead to, one after the other, each with all that it leads to;",
                CanonicalSentences::afterStructs);
        Sentences.holds("a LIST likewise", CanonicalSentences::lists);
        Sentences.holds("(CODE 7: TAG, and STRUCTS of the least DATA and POINTERS that all of them need;",
                CanonicalSentences::structLists);
        Sentences.holds("bits behind the last element 0), all near;", CanonicalSentences::lastBits);
        Sentences.holds("a STRUCT without any WORDS has OFFSET -1.", CanonicalSentences::emptyStructs);
        Sentences.holds("Not OWN then; CURSORS at NOTHING: how many WORDS.", CanonicalSentences::stateAfter);
        Sentences.holds("FOLLOWING is as by root(.., 64), and takes from the ALLOWANCE.",
                CanonicalSentences::following);
        Sentences.holds("MALFORMED (also if there is no first WORD);", CanonicalSentences::malformed);
        Sentences.holds("NO ROOM: there would be more than 64 WORDS;", CanonicalSentences::noRoom);
        Sentences.holds("whichever comes first on the way;", CanonicalSentences::whicheverFirst);
        Sentences.holds("then the MESSAGE stays.", CanonicalSentences::messageStays);
    }

    private static void becomes(SegmentDesk x, long... words) {
        Check.is(words.length, () -> x.canonical());
        ReadingSentences.countsAre(x, 1);
        Words.are(x, 0, words);
        Check.is(0, () -> x.count(5));
    }

    private static long[] filled(int length, long first, long rest) {
        long[] words = new long[length];
        java.util.Arrays.fill(words, rest);
        words[0] = first;
        return words;
    }

    private static void oneSegment() {
        becomes(Words.desk(0), 0);
        becomes(Words.desk(0, 7, 8), 0);
        becomes(Words.desk(Words.struct(1, 1, 0), 99, 5, 98), Words.struct(0, 1, 0), 5);
        becomes(Words.desk(Words.struct(-1, 1, 0)), Words.struct(0, 1, 0), Words.struct(-1, 1, 0));
        becomes(Scenes.placed(Scenes.w(Words.far(1, 1)), Scenes.w(5, Words.struct(0, 0, 1), Words.doubleFar(2, 0)),
                Scenes.w(Words.far(1, 0), Words.list(0, 2, 1), 9)), Words.struct(0, 0, 1), Words.list(0, 2, 1), 5);
        becomes(Scenes.crowded(), Words.struct(0, 0, 2), Words.struct(1, 0, 1), Words.struct(-1, 0, 0),
                Words.struct(0, 1, 0), 77L << 32);
    }

    private static void inOrder() {
        // POINTER 1 leads to what lies first, POINTER 0 to what lies last.
        becomes(Words.desk(Words.struct(0, 0, 2), Words.struct(2, 1, 0), Words.struct(0, 1, 0), 11, 22),
                Words.struct(0, 0, 2), Words.struct(1, 1, 0), Words.struct(1, 1, 0), 22, 11);
        becomes(Words.desk(Words.list(0, 6, 2), Words.list(2, 5, 1), Words.list(0, 5, 1), 11, 22),
                Words.list(0, 6, 2), Words.list(1, 5, 1), Words.list(1, 5, 1), 22, 11);
        // What two POINTERS lead to comes twice.
        becomes(Words.desk(Words.struct(0, 0, 2), Words.struct(1, 1, 0), Words.struct(0, 1, 0), 6),
                Words.struct(0, 0, 2), Words.struct(1, 1, 0), Words.struct(1, 1, 0), 6, 6);
        // A LIST without WORDS is come to behind what was there before it.
        becomes(Words.desk(Words.struct(0, 0, 3), Words.list(2, 5, 1), Words.list(-1, 0, 7), Words.list(0, 2, 0), 6),
                Words.struct(0, 0, 3), Words.list(2, 5, 1), Words.list(2, 0, 7), Words.list(1, 2, 0), 6);
    }

    private static void structs() {
        becomes(Words.desk(Words.struct(0, 3, 0), 4, 5, 6), Words.struct(0, 3, 0), 4, 5, 6);
        becomes(Words.desk(Words.struct(0, 3, 0), 4, 5, 0), Words.struct(0, 2, 0), 4, 5);
        becomes(Words.desk(Words.struct(0, 3, 0), 4, 0, 0), Words.struct(0, 1, 0), 4);
        becomes(Words.desk(Words.struct(0, 3, 0), 0, 0, 6), Words.struct(0, 3, 0), 0, 0, 6);
        becomes(Words.desk(Words.struct(0, 1, 2), 4, 0, 0), Words.struct(0, 1, 0), 4);
        becomes(Words.desk(Words.struct(0, 0, 2), 0, Words.list(0, 5, 1), 8),
                Words.struct(0, 0, 2), 0, Words.list(0, 5, 1), 8);
        becomes(Words.desk(Words.struct(0, 0, 2), Words.list(1, 5, 1), 0, 8),
                Words.struct(0, 0, 1), Words.list(0, 5, 1), 8);
        // DATA that is all 0 goes, POINTERS behind it stay.
        becomes(Words.desk(Words.struct(0, 2, 2), 0, 0, 0, Words.list(0, 5, 1), 8),
                Words.struct(0, 0, 2), 0, Words.list(0, 5, 1), 8);
        becomes(Words.desk(Words.struct(0, 2, 2), 1, 0, Words.list(1, 5, 1), 0, 8),
                Words.struct(0, 1, 1), 1, Words.list(0, 5, 1), 8);
        // A POINTER to a STRUCT that has nothing is not NOTHING.
        becomes(Words.desk(Words.struct(0, 0, 2), 0, Words.struct(0, 1, 0), 0),
                Words.struct(0, 0, 2), 0, Words.struct(-1, 0, 0));
        becomes(Words.desk(filled(64, Words.struct(0, 63, 0), 9)), filled(64, Words.struct(0, 63, 0), 9));
    }

    private static void afterStructs() {
        // What the first POINTER's STRUCT leads to comes before what the second one leads to.
        becomes(Words.desk(Words.struct(0, 1, 2), 1, Words.struct(2, 1, 1), Words.struct(0, 1, 0), 22, 33,
                Words.list(0, 5, 1), 44),
                Words.struct(0, 1, 2), 1, Words.struct(1, 1, 1), Words.struct(3, 1, 0), 33, Words.list(0, 5, 1), 44,
                22);
        becomes(Words.desk(Words.list(0, 6, 2), Words.struct(1, 0, 1), Words.list(1, 5, 1), Words.list(1, 5, 1), 11,
                22),
                Words.list(0, 6, 2), Words.struct(1, 0, 1), Words.list(2, 5, 1), Words.list(0, 5, 1), 22, 11);
        // What one needs is not what the next one needs.
        becomes(Words.desk(Words.struct(0, 0, 3), Words.struct(2, 2, 1), Words.struct(4, 2, 1), Words.list(6, 6, 2),
                1, 2, Words.struct(-1, 0, 0), 3, 0, 0, 0, Words.list(-2, 5, 1)),
                Words.struct(0, 0, 3), Words.struct(2, 2, 1), Words.struct(4, 1, 0), Words.list(4, 6, 2),
                1, 2, Words.struct(-1, 0, 0), 3, 0, Words.list(0, 5, 1), 0);
    }

    private static void lists() {
        for (int code = 1; code <= 5; code++) {
            int perWord = code == 1 ? 64 : 8 >> code - 2;
            becomes(Words.desk(Words.list(1, code, 2 * perWord), 7, -1, 0), Words.list(0, code, 2 * perWord), -1, 0);
            becomes(Words.desk(Words.list(1, code, 0), 7, -1), Words.list(0, code, 0));
        }
        becomes(Words.desk(Words.list(1, 0, 700), 7), Words.list(0, 0, 700));
        // No element is left out, and no POINTER that is NOTHING.
        becomes(Words.desk(Words.list(0, 6, 3), 0, Words.struct(1, 1, 0), 0, 9),
                Words.list(0, 6, 3), 0, Words.struct(1, 1, 0), 0, 9);
        becomes(Words.desk(Words.list(1, 6, 2), 3, 0, 0), Words.list(0, 6, 2), 0, 0);
        becomes(Words.desk(Words.list(0, 6, 0)), Words.list(0, 6, 0));
        becomes(Words.desk(filled(64, Words.list(0, 5, 63), -1)), filled(64, Words.list(0, 5, 63), -1));
    }

    private static void structLists() {
        // Of DATA 3 and POINTERS 2 the one needs DATA 1 and POINTERS 1, the other one DATA 2.
        becomes(Words.desk(Words.list(0, 7, 11), Words.struct(2, 3, 2), 1, 0, 0, Words.list(7, 5, 1), 0,
                0, 2, 0, 0, 0, 77, 5),
                Words.list(0, 7, 6), Words.struct(2, 2, 1), 1, 0, Words.list(3, 5, 1), 0, 2, 0, 5);
        // What all their POINTERS lead to comes behind all of them, the first one's first.
        becomes(Words.desk(Words.list(0, 7, 4), Words.struct(2, 0, 2), Words.list(5, 5, 1), Words.list(3, 5, 1),
                Words.list(1, 5, 1), 0, 3, 2, 1),
                Words.list(0, 7, 4), Words.struct(2, 0, 2), Words.list(3, 5, 1), Words.list(3, 5, 1),
                Words.list(3, 5, 1), 0, 1, 2, 3);
        // Nothing needed, none there, WORDS behind the last one, and STRUCTS that never had any.
        becomes(Words.desk(Words.list(0, 7, 4), Words.struct(2, 1, 1), 0, 0, 0, 0),
                Words.list(0, 7, 0), Words.struct(2, 0, 0));
        becomes(Words.desk(Words.list(0, 7, 2), Words.struct(0, 1, 1), 5, 6), Words.list(0, 7, 0), 0);
        becomes(Words.desk(Words.list(0, 7, 3), Words.struct(1, 1, 0), 5, 6, 7),
                Words.list(0, 7, 1), Words.struct(1, 1, 0), 5);
        becomes(Words.desk(Words.list(0, 7, 1), Words.struct(900, 0, 0), 5),
                Words.list(0, 7, 0), Words.struct(900, 0, 0));
        becomes(Words.desk(Words.list(0, 7, 0), 0), Words.list(0, 7, 0), 0);
    }

    private static void lastBits() {
        becomes(Words.desk(Words.list(0, 1, 1), -1), Words.list(0, 1, 1), 1);
        becomes(Words.desk(Words.list(0, 1, 63), -1), Words.list(0, 1, 63), Long.MAX_VALUE);
        becomes(Words.desk(Words.list(0, 1, 64), -1), Words.list(0, 1, 64), -1);
        becomes(Words.desk(Words.list(0, 1, 65), -1, -1), Words.list(0, 1, 65), -1, 1);
        becomes(Words.desk(Words.list(0, 2, 7), -1), Words.list(0, 2, 7), 0xFFFFFFFFFFFFFFL);
        becomes(Words.desk(Words.list(0, 2, 8), -1), Words.list(0, 2, 8), -1);
        becomes(Words.desk(Words.list(0, 3, 5), -1, -1), Words.list(0, 3, 5), -1, 0xFFFFL);
        becomes(Words.desk(Words.list(0, 4, 1), -1), Words.list(0, 4, 1), 0xFFFFFFFFL);
        becomes(Words.desk(Words.list(0, 4, 2), -1), Words.list(0, 4, 2), -1);
        becomes(Words.desk(Words.list(0, 5, 1), -1), Words.list(0, 5, 1), -1);
        // All near, though two of them were FAR.
        becomes(Scenes.building(), Words.struct(0, 2, 2), 0, -7, Words.list(1, 3, 5), Words.struct(2, 1, 2), 0,
                0x1234, 0x4004000000000000L, Words.list(1, 7, 2), Words.list(3, 6, 2), Words.struct(2, 1, 0), 0,
                9 << 16, 0, 0);
    }

    private static void emptyStructs() {
        becomes(Words.desk(Words.struct(-1, 0, 0)), Words.struct(-1, 0, 0));
        becomes(Words.desk(Words.struct(2, 0, 0), 5, 6), Words.struct(-1, 0, 0));
        becomes(Words.desk(Words.struct(0, 2, 1), 0, 0, 0), Words.struct(-1, 0, 0));
        becomes(Words.desk(Words.list(0, 6, 2), Words.struct(1, 1, 0), Words.struct(-1, 0, 0), 0),
                Words.list(0, 6, 2), Words.struct(-1, 0, 0), Words.struct(-1, 0, 0));
        becomes(Scenes.placed(Scenes.w(Words.doubleFar(1, 0)), Scenes.w(Words.far(1, 2), 0)), Words.struct(-1, 0, 0));
    }

    private static void stateAfter() {
        SegmentDesk x = Scenes.building();
        int octets = x.count(1);
        int words = x.canonical();
        Check.is(words, () -> x.count(4));
        ReadingSentences.countsAre(x, 1, octets);
        Check.is(0, () -> x.count(3));
        Check.is(0, () -> x.count(8));
        Check.bad(() -> x.at(0, words));
        Check.bad(() -> x.struct(0, -1, 0, 0, 0));
        ReadingSentences.allAtNothing(x);
        // Made CANONICAL again it is the same.
        long[] made = new long[words];
        for (int k = 0; k < words; k++) {
            made[k] = x.at(0, k);
        }
        becomes(x, made);
        // Nothing of one that was made before shows in the next one.
        SegmentDesk twice = Words.desk(filled(9, Words.struct(0, 8, 0), -1));
        twice.canonical();
        twice.segment(1, 4, 0, 0, 0);
        twice.word(0, 0, Words.list(0, 6, 3));
        twice.word(0, 2, Words.list(-1, 0, 5));
        becomes(twice, Words.list(0, 6, 3), 0, Words.list(1, 0, 5), 0);
        twice.segment(1, 1, 0, 0, 0);
        becomes(twice, 0);
        // Nothing of the MESSAGE before shows behind it.
        SegmentDesk full = Words.desk(filled(64, Words.struct(-1, 0, 0), -1));
        full.canonical();
        full.begin(20);
        full.struct(0, -1, 0, 19, 0);
        Words.are(full, 0, filled(20, Words.struct(0, 19, 0), 0));
    }

    private static SegmentDesk allowed(int allowance, long... words) {
        SegmentDesk x = Words.desk(words);
        x.root(9, 9);
        x.allow(allowance);
        return x;
    }

    private static void following() {
        // 3 for the STRUCT, 2 for what its POINTER leads to; what is left out is charged as well.
        long[] words = {Words.struct(0, 1, 2), 5, Words.struct(1, 2, 0), 0, 6, 0};
        SegmentDesk just = allowed(5, words);
        Check.is(4, () -> just.canonical());
        Check.is(0, () -> just.count(2));
        Refused.malformed(() -> allowed(4, words), x -> x.canonical(), 3);
        Refused.malformed(() -> allowed(3, words), x -> x.canonical(), 3);
        Refused.malformed(() -> allowed(2, words), x -> x.canonical(), 0);
        SegmentDesk many = allowed(100000, Words.list(0, 7, 0), Words.struct(999, 0, 0));
        many.word(0, 1, Words.struct(99999, 0, 0));
        Check.is(2, () -> many.canonical());
        Check.is(0, () -> many.count(2));
        // POINTERS that are NOTHING cost nothing.
        SegmentDesk nothing = allowed(2, Words.list(0, 6, 2), 0, 0);
        Check.is(3, () -> nothing.canonical());
        // 64 POINTERS one behind the other: the last is FOLLOWED with DEPTH 1.
        SegmentDesk chain = Words.desk(filled(64, Words.struct(0, 0, 1), Words.struct(0, 0, 1)));
        chain.word(0, 63, Words.struct(-1, 0, 0));
        Check.is(64, () -> chain.canonical());
        Check.is(1000 - 63, () -> chain.count(2));
        Check.is(Words.struct(-1, 0, 0), () -> chain.at(0, 63));
    }

    private static void malformed() {
        Refused.malformed(SegmentDesk::new, x -> x.canonical());
        Refused.malformed(Scenes::rootless, x -> x.canonical());
        for (long root : new long[] {3, Words.struct(0, 1, 0), Words.far(1, 0), Words.list(0, 7, 0)}) {
            Refused.malformed(() -> Scenes.placed(Scenes.w(root)), x -> x.canonical());
        }
        // Deep within, the last of all.
        Refused.malformed(() -> Words.desk(Words.list(0, 7, 2), Words.struct(2, 0, 1), 0, Words.list(0, 6, 1), 3),
                x -> x.canonical(), 3 + 1);
        Refused.malformed(() -> Words.desk(Words.list(0, 6, 2), 0, Words.struct(0, 1, 0)), x -> x.canonical(), 2);
        SegmentDesk mended = Words.desk(Words.list(0, 6, 2), 0, Words.struct(-1, 1, 0));
        Check.is(4, () -> mended.canonical());
    }

    /** A STRUCT of POINTERS, each to the LIST of so many WORDS behind them. */
    private static SegmentDesk shared(int pointers, int length) {
        SegmentDesk x = new SegmentDesk();
        x.segment(1, 1 + pointers + length, 0, 0, 0);
        x.word(0, 0, Words.struct(0, 0, pointers));
        for (int p = 0; p < pointers; p++) {
            x.word(0, 1 + p, Words.list(pointers - 1 - p, 5, length));
        }
        return x;
    }

    private static void noRoom() {
        SegmentDesk full = shared(3, 20);
        Check.is(64, () -> full.canonical());
        Refused.noRoom(() -> shared(4, 20), x -> x.canonical(), 4 + 3 * 20);
        Refused.noRoom(() -> shared(3, 21), x -> x.canonical(), 3 + 3 * 21);
        // One LIST or STRUCT that overlaps its own POINTER.
        SegmentDesk just = Words.desk(filled(64, Words.list(-1, 5, 63), 1));
        Check.is(64, () -> just.canonical());
        Refused.noRoom(() -> Words.desk(filled(64, Words.list(-1, 5, 64), 1)), x -> x.canonical(), 64);
        Refused.noRoom(() -> Words.desk(filled(64, Words.struct(-1, 64, 0), 1)), x -> x.canonical(), 64);
        Refused.noRoom(() -> Words.desk(filled(64, Words.list(-1, 6, 64), 0)), x -> x.canonical(), 64);
        // What is left out takes no room: 64 WORDS of DATA of which the last is 0.
        SegmentDesk less = Words.desk(filled(64, Words.struct(-1, 64, 0), 1));
        less.word(0, 63, 0);
        Check.is(64, () -> less.canonical());
        structListsNoRoom();
        // A loop.
        Refused.noRoom(() -> Words.desk(Words.struct(-1, 0, 1)), x -> x.canonical(), 64);
    }

    /** In SEGMENT 1 a LIST of STRUCTS with 63 WORDS besides its TAG; of which 62 are needed, or all. */
    private static void structListsNoRoom() {
        long[] list = filled(64, Words.struct(63, 1, 0), 1);
        Scenes.Scene over = () -> Scenes.placed(Scenes.w(Words.doubleFar(2, 0)), list,
                Scenes.w(Words.far(1, 0), Words.list(0, 7, 63)));
        Refused.noRoom(over, x -> x.canonical(), 64);
        SegmentDesk just = over.make();
        just.word(1, 0, Words.struct(62, 1, 0));
        Check.is(64, () -> just.canonical());
    }

    private static void whicheverFirst() {
        Refused.noRoom(() -> {
            SegmentDesk x = shared(5, 20);
            x.word(0, 5, 3);
            return x;
        }, x -> x.canonical(), 5 + 3 * 20);
        Refused.malformed(() -> {
            SegmentDesk x = shared(5, 20);
            x.word(0, 3, 3);
            return x;
        }, x -> x.canonical(), 5 + 2 * 20);
        // What finds no room is FOLLOWED first.
        Refused.malformed(() -> {
            SegmentDesk x = shared(4, 20);
            x.allow(4 + 59);
            return x;
        }, x -> x.canonical(), 4 + 40);
        Refused.noRoom(() -> {
            SegmentDesk x = shared(4, 20);
            x.allow(4 + 60);
            return x;
        }, x -> x.canonical(), 4 + 60);
        // A thing finds room before what it leads to is looked at.
        Refused.noRoom(() -> Words.desk(filled(64, Words.list(-1, 6, 64), 3)), x -> x.canonical(), 64);
    }

    private static void messageStays() {
        Refused.malformed(Scenes::reading, x -> x.canonical(), 11 + 5 + 5 * 2 + 2 + 1 + 5 + 3 + 2);
        Refused.noRoom(() -> {
            SegmentDesk x = Scenes.begun(64);
            x.list(0, -1, 0, 6, 2, 0, 0);
            x.list(1, 0, 0, 5, 60, 0, 0);
            x.list(2, 0, 1, 5, 2, 0, 0);
            x.put(2, 64, 1, 5);
            x.feed(5, 3);
            return x;
        }, x -> x.canonical(), 2 + 60 + 2);
    }
}

/** Promises 1 to 5 and 24: a new object, segment, word, at, allow, count. */
public final class WordsTest {
    public static void main(String[] args) {
        newObject();
        constants();
        segments();
        wrongSegments();
        words();
        wrongWords();
        allowance();
        counts();
        Check.end();
    }

    private static void newObject() {
        SegmentDesk x = new SegmentDesk();
        int[] due = {1, 0, 1000, 0, 0, 0, 0, 0, 0};
        for (int what = 0; what < due.length; what++) {
            int w = what;
            Check.is(due[w], () -> x.count(w));
        }
        for (int c = 0; c < 16; c++) {
            for (int what = 0; what < 8; what++) {
                int cursor = c;
                int w = what;
                Check.is(0, () -> x.look(cursor, w));
            }
        }
        Check.bad(() -> x.octet(0));
        Check.bad(() -> x.at(0, 0));
        Check.bad(() -> x.struct(0, -1, 0, 1, 1));
        Check.malformed(() -> x.root(0, 64));
    }

    private static void constants() {
        Check.is(0, () -> SegmentDesk.NOTHING);
        Check.is(1, () -> SegmentDesk.STRUCT);
        Check.is(2, () -> SegmentDesk.LIST);
    }

    private static void segments() {
        SegmentDesk x = new SegmentDesk();
        x.segment(4, 1, 2, 64, 0);
        Check.is(4, () -> x.count(0));
        Words.are(x, 0, 0);
        Words.are(x, 1, 0, 0);
        Words.are(x, 2, new long[64]);
        Words.are(x, 3);
        x.word(0, 0, 7);
        x.word(2, 63, 8);
        x.segment(3, 1, 0, 64, 999);
        Check.is(3, () -> x.count(0));
        Words.are(x, 0, 0);
        Words.are(x, 1);
        Words.are(x, 2, new long[64]);
        Check.is(0, () -> x.count(7));
        x.segment(1, 0, -1, 65, 7);
        Check.is(1, () -> x.count(0));
        Check.is(0, () -> x.count(4));
        x.segment(2, 3, 5, -1, -1);
        Check.is(3, () -> x.count(4));
        Check.is(5, () -> x.count(5));
        Check.is(0, () -> x.count(6));
    }

    private static void wrongSegments() {
        SegmentDesk x = new SegmentDesk();
        x.begin(9);
        x.struct(3, -1, 0, 1, 0);
        Check.bad(() -> x.segment(0, 1, 1, 1, 1));
        Check.bad(() -> x.segment(-1, 1, 1, 1, 1));
        Check.bad(() -> x.segment(5, 1, 1, 1, 1));
        Check.bad(() -> x.segment(1, -1, 1, 1, 1));
        Check.bad(() -> x.segment(1, 65, 1, 1, 1));
        Check.bad(() -> x.segment(2, 1, -1, 1, 1));
        Check.bad(() -> x.segment(2, 1, 65, 1, 1));
        Check.bad(() -> x.segment(3, 1, 1, -1, 1));
        Check.bad(() -> x.segment(3, 1, 1, 65, 1));
        Check.bad(() -> x.segment(4, 1, 1, 1, -1));
        Check.bad(() -> x.segment(4, 1, 1, 1, 65));
        Check.is(1, () -> x.count(3));
        Check.is(2, () -> x.count(4));
        Check.is(SegmentDesk.STRUCT, () -> x.look(3, 0));
        x.segment(1, 2, 0, 0, 0);
        Check.is(0, () -> x.count(3));
        Check.is(0, () -> x.count(8));
        for (int what = 0; what < 8; what++) {
            int w = what;
            Check.is(0, () -> x.look(3, w));
        }
    }

    private static void words() {
        SegmentDesk x = new SegmentDesk();
        x.segment(2, 2, 1, 0, 0);
        Check.is(0, () -> x.word(0, 1, -7));
        Check.is(-7, () -> x.word(0, 1, Long.MIN_VALUE));
        Check.is(0, () -> x.word(1, 0, 5));
        Words.are(x, 0, 0, Long.MIN_VALUE);
        Words.are(x, 1, 5);
        cursorsStay();
    }

    private static void cursorsStay() {
        SegmentDesk x = new SegmentDesk();
        x.begin(8);
        x.list(1, -1, 0, 7, 2, 1, 1);
        Check.is(1, () -> x.count(3));
        Check.is(Words.struct(2, 1, 1), () -> x.word(0, 1, 0));
        Check.is(0, () -> x.count(3));
        Check.is(0, () -> x.count(8));
        Check.is(2, () -> x.look(1, 6));
        Check.is(1, () -> x.element(2, 1, 1));
        Check.is(4, () -> x.look(2, 3));
        Check.is(64, () -> x.look(2, 4));
    }

    private static void wrongWords() {
        SegmentDesk x = new SegmentDesk();
        x.begin(4);
        Check.bad(() -> x.word(-1, 0, 1));
        Check.bad(() -> x.word(0, -1, 1));
        Check.bad(() -> x.word(0, 1, 1));
        Check.bad(() -> x.word(1, 0, 1));
        Check.bad(() -> x.word(4, 0, 1));
        Check.bad(() -> x.word(Integer.MAX_VALUE, Integer.MAX_VALUE, 1));
        Check.bad(() -> x.at(-1, 0));
        Check.bad(() -> x.at(0, -1));
        Check.bad(() -> x.at(0, 1));
        Check.bad(() -> x.at(1, 0));
        Check.bad(() -> x.at(4, 0));
        Check.bad(() -> x.at(Integer.MIN_VALUE, Integer.MIN_VALUE));
        Check.is(1, () -> x.count(3));
        x.segment(1, 64, 0, 0, 0);
        Check.is(0, () -> x.at(0, 63));
        Check.bad(() -> x.at(0, 64));
    }

    private static void allowance() {
        SegmentDesk x = new SegmentDesk();
        Check.is(1000, () -> x.allow(100000));
        Check.is(100000, () -> x.allow(0));
        Check.bad(() -> x.allow(-1));
        Check.bad(() -> x.allow(100001));
        Check.is(0, () -> x.count(2));
        Check.is(0, () -> x.allow(7));
        Check.is(7, () -> x.count(2));
        x.segment(1, 1, 0, 0, 0);
        x.begin(3);
        Check.is(7, () -> x.count(2));
    }

    private static void counts() {
        SegmentDesk x = new SegmentDesk();
        Check.bad(() -> x.count(-1));
        Check.bad(() -> x.count(9));
        Check.bad(() -> x.count(Integer.MIN_VALUE));
        x.begin(5);
        x.struct(0, -1, 0, 4, 0);
        x.struct(0, -1, 0, 2, 1);
        x.struct(0, -1, 0, 0, 4);
        x.struct(0, -1, 0, 0, 2);
        x.feed(1, 3);
        int[] due = {4, 3, 1000, 1, 5, 4, 5, 3, 5};
        for (int what = 0; what < due.length; what++) {
            int w = what;
            Check.is(due[w], () -> x.count(w));
        }
    }
}

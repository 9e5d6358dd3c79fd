/** Promises 9, 10 and 11: number, real, item. */
public final class FieldsTest {
    private static final long LOW = 0xF7E6D5C4B3A29180L;
    private static final long HIGH = 0x0123456789ABCDEFL;

    public static void main(String[] args) {
        numbers();
        masks();
        numbersOfNothing();
        wrongNumbers();
        reals();
        manyReals();
        wrongReals();
        items();
        wrongItems();
        Check.end();
    }

    private static SegmentDesk atStruct() {
        SegmentDesk x = Words.desk(Words.struct(0, 2, 1), LOW, HIGH, -1);
        x.root(0, 5);
        return x;
    }

    /** Piece n of so many bits of the two WORDS, read octet by octet or bit by bit. */
    private static long expected(int bits, int n) {
        long value = 0;
        for (int k = bits - 1; k >= 0; k--) {
            int at = n * bits + k;
            long word = at < 64 ? LOW : HIGH;
            long bit = word >>> at % 64 & 1;
            value = k == bits - 1 && bits > 1 ? -bit : value * 2 + bit;
        }
        return value;
    }

    private static void numbers() {
        SegmentDesk x = atStruct();
        for (int bits : new int[] {1, 8, 16, 32, 64}) {
            for (int n = 0; n < 128 / bits; n++) {
                int field = n;
                Check.is(expected(bits, n), () -> x.number(0, bits, field, 0));
            }
            Check.is(0, () -> x.number(0, bits, 128 / bits, 0));
            Check.is(0, () -> x.number(0, bits, Integer.MAX_VALUE, 0));
        }
        Check.is(-128, () -> x.number(0, 8, 0, 0));
        Check.is(1, () -> x.number(0, 1, 7, 0));
        Check.is(0x01234567L, () -> x.number(0, 32, 3, 0));
    }

    private static void masks() {
        SegmentDesk x = atStruct();
        for (int bits : new int[] {8, 16, 32, 64}) {
            Check.is(~expected(bits, 1), () -> x.number(0, bits, 1, -1));
            Check.is(expected(bits, 1) ^ 5, () -> x.number(0, bits, 1, 5));
            Check.is(-1, () -> x.number(0, bits, 1000, -1));
            Check.is(5, () -> x.number(0, bits, 1000, 5));
        }
        Check.is(0x7F, () -> x.number(0, 8, 0, 0xFF));
        Check.is(-1, () -> x.number(0, 8, 1000, 0xFF));
        Check.is(-128, () -> x.number(0, 8, 0, 0xFF00));
        Check.is(0, () -> x.number(0, 1, 7, 1));
        Check.is(1, () -> x.number(0, 1, 0, 1));
        Check.is(1, () -> x.number(0, 1, 0, -1));
        Check.is(1, () -> x.number(0, 1, 7, 2));
        Check.is(1, () -> x.number(0, 1, 128, 3));
        Check.is(0, () -> x.number(0, 16, 1000, 0x70000L));
    }

    private static void numbersOfNothing() {
        SegmentDesk x = atStruct();
        Check.is(0, () -> x.number(1, 64, 0, 0));
        Check.is(77, () -> x.number(1, 64, 3, 77));
        Check.is(-1, () -> x.number(1, 8, 3, 255));
        Check.isReal(0.0, () -> x.real(1, true, 0));
        Check.isReal(0.0, () -> x.real(1, false, 9));
    }

    private static void wrongNumbers() {
        SegmentDesk x = Words.desk(Words.list(0, 5, 1), 3);
        x.root(1, 5);
        Check.kind(() -> x.number(1, 8, 0, 0));
        Check.bad(() -> x.number(-1, 8, 0, 0));
        Check.bad(() -> x.number(16, 8, 0, 0));
        for (int bits : new int[] {-1, 0, 2, 4, 7, 24, 63, 65, 128, Integer.MIN_VALUE}) {
            Check.bad(() -> x.number(0, bits, 0, 0));
            Check.bad(() -> x.number(1, bits, 0, 0));
        }
        Check.bad(() -> x.number(0, 8, -1, 0));
        Check.bad(() -> x.number(1, 8, -1, 0));
    }

    private static SegmentDesk withWord(long w) {
        SegmentDesk x = Words.desk(Words.struct(0, 1, 0), w);
        x.root(0, 5);
        return x;
    }

    private static void wide(long bits) {
        SegmentDesk x = withWord(bits);
        double want = Double.longBitsToDouble(bits);
        if (Double.isFinite(want)) {
            Check.isReal(want, () -> x.real(0, true, 0));
        } else {
            Check.notFinite(() -> x.real(0, true, 0));
        }
    }

    private static void narrow(int bits) {
        SegmentDesk x = withWord((long) bits << 32 | 0x55555555L);
        float want = Float.intBitsToFloat(bits);
        if (Float.isFinite(want)) {
            Check.isReal(want, () -> x.real(0, false, 1));
        } else {
            Check.notFinite(() -> x.real(0, false, 1));
        }
        SegmentDesk low = withWord(bits & 0xFFFFFFFFL);
        if (Float.isFinite(want)) {
            Check.isReal(want, () -> low.real(0, false, 0));
        }
    }

    private static void reals() {
        for (double v : new double[] {0.0, -0.0, 1, -1, 0.1, Math.PI, Double.MAX_VALUE, -Double.MAX_VALUE,
            Double.MIN_VALUE, -Double.MIN_VALUE, Double.MIN_NORMAL, Math.nextDown(Double.MIN_NORMAL),
            Double.POSITIVE_INFINITY, Double.NEGATIVE_INFINITY, Double.NaN}) {
            wide(Double.doubleToRawLongBits(v));
        }
        wide(-1L);
        wide(0x7FF0000000000001L);
        for (float v : new float[] {0f, -0f, 1, -1, 0.1f, Float.MAX_VALUE, -Float.MAX_VALUE,
            Float.MIN_VALUE, -Float.MIN_VALUE, Float.MIN_NORMAL, Math.nextDown(Float.MIN_NORMAL),
            Float.POSITIVE_INFINITY, Float.NEGATIVE_INFINITY, Float.NaN}) {
            narrow(Float.floatToRawIntBits(v));
        }
        narrow(-1);
        narrow(0x7F800001);
        SegmentDesk x = withWord(-1);
        Check.isReal(0.0, () -> x.real(0, true, 1));
        Check.isReal(0.0, () -> x.real(0, false, 2));
        Check.isReal(0.0, () -> x.real(0, false, Integer.MAX_VALUE));
    }

    private static void manyReals() {
        java.util.Random random = new java.util.Random(1);
        for (int k = 0; k < 2000; k++) {
            wide(random.nextLong());
            narrow(random.nextInt());
        }
        for (int exponent = 0; exponent < 2048; exponent++) {
            wide((long) exponent << 52 | random.nextLong() >>> 12);
        }
        for (int exponent = 0; exponent < 256; exponent++) {
            narrow(exponent << 23 | random.nextInt() >>> 9);
        }
    }

    private static void wrongReals() {
        SegmentDesk x = Words.desk(Words.list(0, 5, 1), -1);
        x.root(1, 5);
        for (boolean wide : new boolean[] {false, true}) {
            Check.kind(() -> x.real(1, wide, 0));
            Check.bad(() -> x.real(-1, wide, 0));
            Check.bad(() -> x.real(16, wide, 0));
            Check.bad(() -> x.real(0, wide, -1));
            Check.bad(() -> x.real(1, wide, -1));
        }
    }

    private static void items() {
        for (int code = 1; code <= 5; code++) {
            int bits = code == 1 ? 1 : 4 << code - 1;
            SegmentDesk x = Words.desk(Words.list(1, code, 128 / bits), 7, LOW, HIGH);
            x.root(3, 5);
            for (int n = 0; n < 128 / bits; n++) {
                int at = n;
                Check.is(expected(bits, n), () -> x.item(3, at));
            }
            Check.bad(() -> x.item(3, 128 / bits));
            Check.bad(() -> x.item(3, -1));
        }
        SegmentDesk none = Words.desk(Words.list(0, 0, 800), -1);
        none.root(0, 1);
        Check.is(0, () -> none.item(0, 0));
        Check.is(0, () -> none.item(0, 799));
        Check.bad(() -> none.item(0, 800));
        Check.bad(() -> none.item(0, -1));
        SegmentDesk end = Words.desk(Words.list(0, 0, 5));
        end.root(0, 1);
        Check.is(0, () -> end.item(0, 4));
    }

    private static void wrongItems() {
        SegmentDesk x = Words.desk(Words.list(0, 6, 1), 0);
        Check.bad(() -> x.item(-1, 0));
        Check.bad(() -> x.item(16, 0));
        Check.kind(() -> x.item(0, 0));
        Check.kind(() -> x.item(0, -1));
        x.root(0, 1);
        Check.kind(() -> x.item(0, 0));
        Check.kind(() -> x.item(0, 1));
        SegmentDesk structs = Words.desk(Words.list(0, 7, 1), Words.struct(1, 1, 0), 0);
        structs.root(0, 1);
        Check.kind(() -> structs.item(0, 0));
        Check.kind(() -> structs.item(0, -1));
        SegmentDesk struct = atStruct();
        Check.kind(() -> struct.item(0, 0));
    }
}

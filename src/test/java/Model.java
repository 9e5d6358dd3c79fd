import java.util.ArrayList;
import java.util.List;

/**
 * The document written down a second time, plainly and with the library, to compare SegmentDesk with.
 * It shares no code with it: WORDS are read bit by bit, octets lie in lists, everything is made anew.
 */
final class Model {
    /** Where a CURSOR stands. Bits are counted from bit 0 of WORD 0 of the SEGMENT. */
    record Cursor(int kind, int depth, int segment, int bit, int dataBits, int pointers, int count, int code) {
    }

    private static final Cursor NOWHERE = new Cursor(0, 0, 0, 0, 0, 0, 0, 0);
    private static final int[] BITS = {0, 1, 8, 16, 32, 64, 64};

    private List<List<Long>> message = new ArrayList<>();
    private int size = 0;
    private int allowance = 1000;
    private List<Integer> octets = new ArrayList<>();
    private final Cursor[] cursors = new Cursor[16];

    Model() {
        message.add(new ArrayList<>());
        clearCursors();
    }

    private void clearCursors() {
        java.util.Arrays.fill(cursors, NOWHERE);
    }

    private static void bad(boolean is) {
        if (is) {
            throw new IllegalArgumentException();
        }
    }

    private static void kind(boolean is) {
        if (is) {
            throw new UnsupportedOperationException();
        }
    }

    private static void malformed(boolean is) {
        if (is) {
            throw new IllegalStateException();
        }
    }

    private static boolean out(long n, long low, long high) {
        return n < low || n > high;
    }

    /** Bits low to high of a WORD, without sign. */
    private static long part(long word, int low, int high) {
        long value = 0;
        for (int k = high; k >= low; k--) {
            value = value * 2 + (word >>> k & 1);
        }
        return value;
    }

    private static long offset(long word) {
        long value = part(word, 2, 31);
        return value >= 1L << 29 ? value - (1L << 30) : value;
    }

    private static long near(int kind, long offset, long low, int lowAt, long high, int highAt) {
        return kind + ((offset + (1L << 30)) % (1L << 30)) * 4 + (low << lowAt) + (high << highAt);
    }

    private static long structWord(long offset, long data, long pointers) {
        return near(0, offset, data, 32, pointers, 48);
    }

    private static long listWord(long offset, long code, long count) {
        return near(1, offset, code, 32, count, 35);
    }

    private static long farWord(boolean twice, long segment, long place) {
        return 2 + (twice ? 4 : 0) + place * 8 + (segment << 32);
    }

    private Long wordAt(long s, long k) {
        if (out(s, 0, message.size() - 1) || out(k, 0, message.get((int) s).size() - 1)) {
            return null;
        }
        return message.get((int) s).get((int) k);
    }

    void segment(int n, int a, int b, int c, int d) {
        bad(out(n, 1, 4));
        int[] lengths = {a, b, c, d};
        List<List<Long>> made = new ArrayList<>();
        for (int s = 0; s < n; s++) {
            bad(out(lengths[s], 0, 64));
            made.add(zeros(lengths[s]));
        }
        become(made, 0);
    }

    private static List<Long> zeros(int n) {
        List<Long> made = new ArrayList<>();
        for (int k = 0; k < n; k++) {
            made.add(0L);
        }
        return made;
    }

    private void become(List<List<Long>> made, int newSize) {
        message = made;
        size = newSize;
        clearCursors();
    }

    long word(int s, int k, long w) {
        bad(wordAt(s, k) == null);
        size = 0;
        return message.get(s).set(k, w);
    }

    long at(int s, int k) {
        bad(wordAt(s, k) == null);
        return wordAt(s, k);
    }

    int allow(int n) {
        bad(out(n, 0, 100000));
        int left = allowance;
        allowance = n;
        return left;
    }

    /** FOLLOWING the POINTER at WORD k of SEGMENT s. */
    private Cursor led(int s, int k, int depth) {
        long pointer = wordAt(s, k);
        if (pointer == 0) {
            return NOWHERE;
        }
        malformed(part(pointer, 0, 1) == 3 || depth == 0);
        if (part(pointer, 0, 1) != 2) {
            return landed(pointer, s, k + 1 + offset(pointer), depth);
        }
        long farSegment = part(pointer, 32, 63);
        long farPlace = part(pointer, 3, 31);
        Long pad = wordAt(farSegment, farPlace);
        malformed(pad == null);
        if (part(pointer, 2, 2) == 0) {
            malformed(pad == 0 || part(pad, 0, 1) > 1);
            return landed(pad, (int) farSegment, farPlace + 1 + offset(pad), depth);
        }
        Long like = wordAt(farSegment, farPlace + 1);
        malformed(like == null || part(pad, 0, 2) != 2 || part(pad, 32, 63) >= message.size());
        malformed(part(like, 0, 1) > 1 || offset(like) != 0);
        return landed(like, (int) part(pad, 32, 63), part(pad, 3, 31), depth);
    }

    private Cursor landed(long what, int s, long place, int depth) {
        long length = message.get(s).size();
        if (part(what, 0, 1) == 0) {
            int data = (int) part(what, 32, 47);
            int pointers = (int) part(what, 48, 63);
            malformed(place < 0 || place + data + pointers > length);
            charge(data + pointers);
            return new Cursor(1, depth - 1, s, (int) place * 64, data * 64, pointers, 0, 0);
        }
        int code = (int) part(what, 32, 34);
        long count = part(what, 35, 63);
        if (code < 7) {
            long words = (count * BITS[code] + 63) / 64;
            malformed(place < 0 || place + words > length);
            charge(code == 0 ? count : words);
            return new Cursor(2, depth - 1, s, (int) place * 64, 0, 0, (int) count, code);
        }
        malformed(place < 0 || place + 1 + count > length);
        long tag = wordAt(s, place);
        long each = part(tag, 32, 47) + part(tag, 48, 63);
        malformed(part(tag, 0, 1) != 0 || offset(tag) < 0 || offset(tag) * each > count);
        charge(count + 1 + (each == 0 ? offset(tag) : 0));
        return new Cursor(2, depth - 1, s, (int) place * 64, (int) part(tag, 32, 47) * 64,
                (int) part(tag, 48, 63), (int) offset(tag), 7);
    }

    private void charge(long words) {
        malformed(words > allowance);
        allowance -= (int) words;
    }

    int root(int c, int depth) {
        bad(out(c, 0, 15) || out(depth, 0, 64));
        malformed(wordAt(0, 0) == null);
        cursors[c] = led(0, 0, depth);
        return cursors[c].kind;
    }

    int follow(int c, int from, int n) {
        bad(out(c, 0, 15) || out(from, 0, 15) || n < 0);
        Cursor at = cursors[from];
        if (at.kind == 2) {
            bad(at.code == 6 && n >= at.count);
            kind(at.code != 6);
            cursors[c] = led(at.segment, at.bit / 64 + n, at.depth);
        } else if (n < at.pointers) {
            cursors[c] = led(at.segment, (at.bit + at.dataBits) / 64 + n, at.depth);
        } else {
            cursors[c] = NOWHERE;
        }
        return cursors[c].kind;
    }

    int element(int c, int from, int n) {
        bad(out(c, 0, 15) || out(from, 0, 15));
        Cursor at = cursors[from];
        kind(at.kind != 2);
        bad(out(n, 0, at.count - 1));
        malformed(at.code == 1);
        if (at.code == 7) {
            int bit = at.bit + 64 + n * (at.dataBits + at.pointers * 64);
            cursors[c] = new Cursor(1, at.depth, at.segment, bit, at.dataBits, at.pointers, 0, 0);
        } else {
            int bit = at.bit + n * BITS[at.code];
            cursors[c] = new Cursor(1, at.depth, at.segment, bit, at.code == 6 ? 0 : BITS[at.code],
                    at.code == 6 ? 1 : 0, 0, 0);
        }
        return 1;
    }

    private static boolean isFieldSize(int bits) {
        return List.of(1, 8, 16, 32, 64).contains(bits);
    }

    private long read(int segment, int bit, int bits) {
        return part(message.get(segment).get(bit / 64), bit % 64, bit % 64 + bits - 1);
    }

    private static long withSign(long raw, int bits) {
        if (bits == 64 || bits == 1 || raw < 1L << bits - 1) {
            return raw;
        }
        return raw - (1L << bits);
    }

    private long field(Cursor at, int bits, int n) {
        return (n + 1L) * bits > at.dataBits ? 0 : read(at.segment, at.bit + n * bits, bits);
    }

    long number(int c, int bits, int n, long mask) {
        bad(out(c, 0, 15) || !isFieldSize(bits) || n < 0);
        kind(cursors[c].kind == 2);
        return withSign(field(cursors[c], bits, n) ^ part(mask, 0, bits - 1), bits);
    }

    double real(int c, boolean wide, int n) {
        bad(out(c, 0, 15) || n < 0);
        kind(cursors[c].kind == 2);
        long raw = field(cursors[c], wide ? 64 : 32, n);
        double value = wide ? Double.longBitsToDouble(raw) : Float.intBitsToFloat((int) raw);
        if (!Double.isFinite(value)) {
            throw new ArithmeticException();
        }
        return value;
    }

    long item(int c, int n) {
        bad(out(c, 0, 15));
        Cursor at = cursors[c];
        kind(at.kind != 2 || at.code > 5);
        bad(out(n, 0, at.count - 1));
        return at.code == 0 ? 0 : withSign(read(at.segment, at.bit + n * BITS[at.code], BITS[at.code]),
                BITS[at.code]);
    }

    int look(int c, int what) {
        bad(out(c, 0, 15) || out(what, 0, 7));
        Cursor at = cursors[c];
        int[] all = {at.kind, at.depth, at.segment, at.bit / 64, at.kind == 1 ? at.dataBits : 0,
            at.kind == 1 ? at.pointers : 0, at.count, at.code};
        return all[what];
    }

    void begin(int newSize) {
        bad(out(newSize, 1, 64));
        List<List<Long>> made = new ArrayList<>();
        made.add(zeros(1));
        become(made, newSize);
    }

    /** SEGMENT and place of the POINTER to build from. */
    private int[] source(int from, int n) {
        if (from == -1) {
            return new int[] {0, 0};
        }
        Cursor at = cursors[from];
        kind(at.kind == 0 || at.kind == 2 && at.code != 6);
        bad(out(n, 0, (at.kind == 2 ? at.count : at.pointers) - 1));
        return new int[] {at.segment, (at.bit + (at.kind == 1 ? at.dataBits : 0)) / 64 + n};
    }

    private int left(int s) {
        return size - message.get(s).size();
    }

    private void grow(int s, int n) {
        message.get(s).addAll(zeros(n));
    }

    /** Answers SEGMENT and place of the new WORDS. */
    private int[] allocate(int[] source, int n, long like) {
        int s = source[0];
        int k = source[1];
        if (left(s) >= n) {
            int place = message.get(s).size();
            grow(s, n);
            message.get(s).set(k, like + ((place - k - 1L + (1L << 30)) % (1L << 30)) * 4);
            return new int[] {s, place};
        }
        for (int t = 0; t < message.size(); t++) {
            if (left(t) >= n + 1) {
                return padded(source, t, n, like);
            }
        }
        for (int t = 0; t < message.size(); t++) {
            for (int u = 0; left(t) >= n && u < message.size(); u++) {
                if (left(u) >= (u == t ? n + 2 : 2)) {
                    int place = message.get(t).size();
                    grow(t, n);
                    message.get(s).set(k, farWord(true, u, message.get(u).size()));
                    message.get(u).add(farWord(false, t, place));
                    message.get(u).add(like);
                    return new int[] {t, place};
                }
            }
        }
        if (message.size() == 4 || n + 1 > size) {
            throw new IndexOutOfBoundsException();
        }
        message.add(new ArrayList<>());
        return padded(source, message.size() - 1, n, like);
    }

    private int[] padded(int[] source, int t, int n, long like) {
        int pad = message.get(t).size();
        message.get(t).add(like);
        grow(t, n);
        message.get(source[0]).set(source[1], farWord(false, t, pad));
        return new int[] {t, pad + 1};
    }

    int struct(int c, int from, int n, int data, int pointers) {
        bad(out(c, 0, 15) || out(from, -1, 15) || out(data, 0, 20) || out(pointers, 0, 20) || size == 0);
        int[] to = source(from, n);
        if (data + pointers == 0) {
            message.get(to[0]).set(to[1], structWord(-1, 0, 0));
        } else {
            to = allocate(to, data + pointers, structWord(0, data, pointers));
        }
        cursors[c] = new Cursor(1, 64, to[0], to[1] * 64, data * 64, pointers, 0, 0);
        return 1;
    }

    int list(int c, int from, int n, int code, int count, int data, int pointers) {
        bad(out(c, 0, 15) || out(from, -1, 15) || out(code, 0, 7) || out(count, 0, 64));
        bad(code == 7 && (out(data, 0, 8) || out(pointers, 0, 8)) || size == 0);
        int[] to = source(from, n);
        if (code == 7) {
            int words = count * (data + pointers);
            to = allocate(to, words + 1, listWord(0, 7, words));
            message.get(to[0]).set(to[1], structWord(count, data, pointers));
            cursors[c] = new Cursor(2, 64, to[0], to[1] * 64, data * 64, pointers, count, 7);
        } else {
            to = allocate(to, (count * BITS[code] + 63) / 64, listWord(0, code, count));
            cursors[c] = new Cursor(2, 64, to[0], to[1] * 64, 0, 0, count, code);
        }
        return 2;
    }

    private void write(int segment, int bit, int bits, long v) {
        long word = message.get(segment).get(bit / 64);
        for (int k = 0; k < bits; k++) {
            long one = 1L << bit % 64 + k;
            word = (v >>> k & 1) == 1 ? word | one : word & ~one;
        }
        message.get(segment).set(bit / 64, word);
    }

    void put(int c, int bits, int n, long v) {
        bad(out(c, 0, 15) || !isFieldSize(bits) || n < 0 || size == 0);
        Cursor at = cursors[c];
        if (at.kind == 2) {
            kind(at.code == 0 || at.code > 5 || BITS[at.code] != bits);
            bad(n >= at.count);
        } else {
            kind(at.kind == 0);
            bad((n + 1L) * bits > at.dataBits);
        }
        write(at.segment, at.bit + n * bits, bits, v);
    }

    void putReal(int c, boolean wide, int n, double v) {
        bad(out(c, 0, 15) || n < 0 || size == 0);
        Cursor at = cursors[c];
        kind(at.kind != 1);
        int bits = wide ? 64 : 32;
        bad((n + 1L) * bits > at.dataBits);
        if (!(wide ? Double.isFinite(v) : Float.isFinite((float) v))) {
            throw new ArithmeticException();
        }
        write(at.segment, at.bit + n * bits, bits,
                wide ? Double.doubleToRawLongBits(v) : Float.floatToRawIntBits((float) v));
    }

    private static void addNumber(List<Integer> to, long number, int length) {
        for (int k = 0; k < length; k++) {
            to.add((int) (number >>> 8 * k & 255));
        }
    }

    private List<Integer> framed() {
        List<Integer> made = new ArrayList<>();
        addNumber(made, message.size() - 1, 4);
        for (List<Long> words : message) {
            addNumber(made, words.size(), 4);
        }
        if (message.size() % 2 == 0) {
            addNumber(made, 0, 4);
        }
        for (List<Long> words : message) {
            for (long word : words) {
                addNumber(made, word, 8);
            }
        }
        return made;
    }

    private static int zerosIn(List<Integer> from, int group) {
        int zeros = 0;
        for (int octet : from.subList(group * 8, group * 8 + 8)) {
            zeros += octet == 0 ? 1 : 0;
        }
        return zeros;
    }

    int pack() {
        List<Integer> from = framed();
        List<Integer> made = new ArrayList<>();
        int groups = from.size() / 8;
        int g = 0;
        while (g < groups) {
            int tag = 0;
            int tagAt = made.size();
            made.add(0);
            for (int k = 0; k < 8; k++) {
                if (from.get(g * 8 + k) != 0) {
                    tag += 1 << k;
                    made.add(from.get(g * 8 + k));
                }
            }
            made.set(tagAt, tag);
            g++;
            int begin = g;
            while (tag == 0 && g < groups && g - begin < 255 && zerosIn(from, g) == 8) {
                g++;
            }
            while (tag == 255 && g < groups && g - begin < 255 && zerosIn(from, g) <= 1) {
                g++;
            }
            if (tag == 0 || tag == 255) {
                made.add(g - begin);
            }
            if (tag == 255) {
                made.addAll(from.subList(begin * 8, g * 8));
            }
        }
        if (made.size() > 1500) {
            throw new IndexOutOfBoundsException();
        }
        octets = made;
        return made.size();
    }

    int octet(int k) {
        bad(out(k, 0, octets.size() - 1));
        return octets.get(k);
    }

    int feed(long w, int n) {
        bad(out(n, 1, 8));
        if (octets.size() + n > 1500) {
            throw new IndexOutOfBoundsException();
        }
        addNumber(octets, w, n);
        return octets.size();
    }

    int drop() {
        int before = octets.size();
        octets = new ArrayList<>();
        return before;
    }

    private List<Integer> unpacked() {
        List<Integer> made = new ArrayList<>();
        int at = 0;
        while (at < octets.size()) {
            int tag = octets.get(at++);
            for (int k = 0; k < 8; k++) {
                boolean there = (tag >> k & 1) == 1;
                malformed(there && at >= octets.size());
                made.add(there ? octets.get(at++) : 0);
            }
            if (tag == 0 || tag == 255) {
                malformed(at >= octets.size());
                int run = octets.get(at++) * 8;
                malformed(tag == 255 && at + run > octets.size());
                for (int k = 0; k < run; k++) {
                    made.add(tag == 255 ? octets.get(at++) : 0);
                }
            }
        }
        return made;
    }

    private static long numberAt(List<Integer> from, int at, int length) {
        long value = 0;
        for (int k = length - 1; k >= 0; k--) {
            value = value << 8 | from.get(at + k);
        }
        return value;
    }

    int take() {
        List<Integer> from = unpacked();
        malformed(from.size() < 8 || numberAt(from, 0, 4) > 3);
        int n = (int) numberAt(from, 0, 4) + 1;
        int at = (4 + 4 * n + 7) / 8 * 8;
        malformed(from.size() < at);
        List<List<Long>> made = new ArrayList<>();
        for (int s = 0; s < n; s++) {
            long length = numberAt(from, 4 + 4 * s, 4);
            malformed(length > 64 || at + length * 8 > from.size());
            List<Long> words = new ArrayList<>();
            for (int k = 0; k < length; k++, at += 8) {
                words.add(numberAt(from, at, 8));
            }
            made.add(words);
        }
        malformed(at != from.size());
        become(made, 0);
        return n;
    }

    int canonical() {
        malformed(wordAt(0, 0) == null);
        List<Long> made = zeros(1);
        copyTo(made, 0, 0, 0, 64);
        List<List<Long>> whole = new ArrayList<>();
        whole.add(made);
        become(whole, 0);
        return made.size();
    }

    private static int room(List<Long> made, int n) {
        if (made.size() + n > 64) {
            throw new IndexOutOfBoundsException();
        }
        int place = made.size();
        made.addAll(zeros(n));
        return place;
    }

    private void copyTo(List<Long> made, int target, int s, int k, int depth) {
        Cursor at = led(s, k, depth);
        if (at.kind == 1) {
            copyStruct(made, target, at, depth);
        } else if (at.kind == 2 && at.code < 6) {
            copyNumbers(made, target, at);
        } else if (at.kind == 2 && at.code == 6) {
            int place = room(made, at.count);
            made.set(target, listWord(place - target - 1, 6, at.count));
            for (int n = 0; n < at.count; n++) {
                copyTo(made, place + n, at.segment, at.bit / 64 + n, depth - 1);
            }
        } else if (at.kind == 2) {
            copyStructs(made, target, at, depth);
        }
    }

    /** How many of the first n WORDS there are up to the last one that is not 0. */
    private int need(int s, int from, int n) {
        int last = 0;
        for (int k = 0; k < n; k++) {
            if (wordAt(s, from + k) != 0) {
                last = k + 1;
            }
        }
        return last;
    }

    private void copyStruct(List<Long> made, int target, Cursor at, int depth) {
        int from = at.bit / 64;
        int words = at.dataBits / 64;
        int data = need(at.segment, from, words);
        int pointers = need(at.segment, from + words, at.pointers);
        int place = room(made, data + pointers);
        made.set(target, structWord(data + pointers == 0 ? -1 : place - target - 1, data, pointers));
        for (int k = 0; k < data; k++) {
            made.set(place + k, wordAt(at.segment, from + k));
        }
        for (int p = 0; p < pointers; p++) {
            copyTo(made, place + data + p, at.segment, from + words + p, depth - 1);
        }
    }

    private void copyNumbers(List<Long> made, int target, Cursor at) {
        int bits = at.count * BITS[at.code];
        int place = room(made, (bits + 63) / 64);
        made.set(target, listWord(place - target - 1, at.code, at.count));
        for (int k = 0; k < bits; k++) {
            long bit = read(at.segment, at.bit + k, 1);
            made.set(place + k / 64, made.get(place + k / 64) | bit << k % 64);
        }
    }

    private void copyStructs(List<Long> made, int target, Cursor at, int depth) {
        int words = at.dataBits / 64;
        int each = words + at.pointers;
        int from = at.bit / 64 + 1;
        int data = 0;
        int pointers = 0;
        for (int n = 0; n < at.count; n++) {
            data = Math.max(data, need(at.segment, from + n * each, words));
            pointers = Math.max(pointers, need(at.segment, from + n * each + words, at.pointers));
        }
        int tag = room(made, 1 + at.count * (data + pointers));
        made.set(target, listWord(tag - target - 1, 7, at.count * (data + pointers)));
        made.set(tag, structWord(at.count, data, pointers));
        for (int n = 0; n < at.count; n++) {
            int place = tag + 1 + n * (data + pointers);
            for (int k = 0; k < data; k++) {
                made.set(place + k, wordAt(at.segment, from + n * each + k));
            }
            for (int p = 0; p < pointers; p++) {
                copyTo(made, place + data + p, at.segment, from + n * each + words + p, depth - 1);
            }
        }
    }

    int count(int what) {
        bad(out(what, 0, 8));
        if (what >= 4 && what <= 7) {
            return what - 4 < message.size() ? message.get(what - 4).size() : 0;
        }
        int[] all = {message.size(), octets.size(), allowance, size > 0 ? 1 : 0, 0, 0, 0, 0, size};
        return all[what];
    }
}

import java.util.Arrays;

/**
 * Messages of words in segments: read where they lie, built, framed and packed, taken apart, made canonical.
 * The words in capitals are those of the document.
 */
public final class SegmentDesk {
    public static final int NOTHING = 0, STRUCT = 1, LIST = 2;

    private static final int CURSORS = 16;
    private static final int SEGMENTS = 4;
    private static final int WORDS = 64;
    private static final int OCTETS = 1500;
    private static final int GROUPS = SEGMENTS / 2 + 1 + SEGMENTS * WORDS;
    private static final int DEPTHS = 64;
    private static final int FIRST_ALLOWANCE = 1000;
    private static final int MOST_ALLOWANCE = 100000;
    private static final int MOST_STRUCT = 20;
    private static final int MOST_COUNT = 64;
    private static final int MOST_ELEMENT = 8;

    private static final int OF_NO_BITS = 0, OF_BITS = 1, OF_LONGS = 5, OF_POINTERS = 6, OF_STRUCTS = 7;
    /** How many bits an element has, by CODE; of a STRUCT the TAG says it. */
    private static final int[] ELEMENT_BITS = {0, 1, 8, 16, 32, 64, 64, 0};

    private final Message message = new Message();
    private final Reader reader = new Reader();
    private final Builder builder = new Builder();
    private final Frame frame = new Frame();
    private final Canon canon = new Canon();
    private final Spot[] cursors = new Spot[CURSORS];
    private Octets octets = new Octets();
    private Octets spare = new Octets();

    public SegmentDesk() {
        for (int c = 0; c < CURSORS; c++) {
            cursors[c] = new Spot();
        }
    }

    public void segment(int n, int a, int b, int c, int d) throws IllegalArgumentException {
        badIf(n < 1 || n > SEGMENTS);
        badIf(!isWithin(a, WORDS) || n > 1 && !isWithin(b, WORDS));
        badIf(n > 2 && !isWithin(c, WORDS) || n > 3 && !isWithin(d, WORDS));
        message.renew(n);
        message.used[0] = a;
        message.used[1] = n > 1 ? b : 0;
        message.used[2] = n > 2 ? c : 0;
        message.used[3] = n > 3 ? d : 0;
        cursorsToNothing();
    }

    public long word(int s, int k, long w) throws IllegalArgumentException {
        badIf(!message.holds(s, k));
        long before = message.words[s][k];
        message.words[s][k] = w;
        message.size = 0;
        return before;
    }

    public long at(int s, int k) throws IllegalArgumentException {
        badIf(!message.holds(s, k));
        return message.words[s][k];
    }

    public int allow(int n) throws IllegalArgumentException {
        badIf(n < 0 || n > MOST_ALLOWANCE);
        int left = reader.allowance;
        reader.allowance = n;
        return left;
    }

    public int root(int c, int depth) throws IllegalArgumentException, IllegalStateException {
        badIf(!isCursor(c) || depth < 0 || depth > DEPTHS);
        malformedIf(!message.holds(0, 0));
        reader.lead(message, cursors[c], 0, 0, depth);
        return cursors[c].kind;
    }

    public int follow(int c, int from, int n)
            throws IllegalArgumentException, UnsupportedOperationException, IllegalStateException {
        badIf(!isCursor(c) || !isCursor(from) || n < 0);
        Spot spot = cursors[from];
        badIf(spot.isPointerList() && n >= spot.count);
        kindIf(spot.kind == LIST && !spot.isPointerList());
        if (n < spot.pointerCount()) {
            reader.lead(message, cursors[c], spot.segment, spot.pointerPlace(n), spot.depth);
        } else {
            cursors[c].toNothing();
        }
        return cursors[c].kind;
    }

    public int element(int c, int from, int n)
            throws IllegalArgumentException, UnsupportedOperationException, IllegalStateException {
        badIf(!isCursor(c) || !isCursor(from));
        Spot list = cursors[from];
        kindIf(list.kind != LIST);
        badIf(n < 0 || n >= list.count);
        malformedIf(list.code == OF_BITS);
        cursors[c].toElement(list, n);
        return STRUCT;
    }

    public long number(int c, int bits, int n, long mask)
            throws IllegalArgumentException, UnsupportedOperationException {
        badIf(!isCursor(c) || !isFieldSize(bits) || n < 0);
        kindIf(cursors[c].kind == LIST);
        return signed(fieldOf(cursors[c], bits, n) ^ (mask & ones(bits)), bits);
    }

    public double real(int c, boolean wide, int n)
            throws IllegalArgumentException, UnsupportedOperationException, ArithmeticException {
        badIf(!isCursor(c) || n < 0);
        kindIf(cursors[c].kind == LIST);
        long raw = fieldOf(cursors[c], wide ? 64 : 32, n);
        notFiniteIf(!Reals.isFinite(raw, wide));
        return Reals.fromBits(raw, wide);
    }

    public long item(int c, int n) throws IllegalArgumentException, UnsupportedOperationException {
        badIf(!isCursor(c));
        Spot list = cursors[c];
        kindIf(list.kind != LIST || list.code > OF_LONGS);
        badIf(n < 0 || n >= list.count);
        if (list.code == OF_NO_BITS) {
            return 0;
        }
        int bits = ELEMENT_BITS[list.code];
        return signed(message.piece(list.segment, list.pieceBit(bits, n), bits), bits);
    }

    public int look(int c, int what) throws IllegalArgumentException {
        badIf(!isCursor(c));
        Spot spot = cursors[c];
        switch (what) {
            case 0:
                return spot.kind;
            case 1:
                return spot.depth;
            case 2:
                return spot.segment;
            case 3:
                return spot.place;
            case 4:
                return spot.kind == STRUCT ? spot.dataBits : 0;
            case 5:
                return spot.kind == STRUCT ? spot.pointers : 0;
            case 6:
                return spot.count;
            case 7:
                return spot.code;
            default:
                throw new IllegalArgumentException("no such thing to look at");
        }
    }

    public void begin(int size) throws IllegalArgumentException {
        badIf(size < 1 || size > WORDS);
        message.renew(1);
        message.used[0] = 1;
        message.size = size;
        cursorsToNothing();
    }

    public int struct(int c, int from, int n, int data, int pointers)
            throws IllegalArgumentException, UnsupportedOperationException, IndexOutOfBoundsException {
        badIf(!isCursor(c) || !isBuildSource(from));
        badIf(!isWithin(data, MOST_STRUCT) || !isWithin(pointers, MOST_STRUCT) || !message.isOwn());
        checkPointer(from, n);
        builder.addStruct(message, segmentOf(from), placeOf(from, n), data, pointers);
        cursors[c].toStruct(builder.segment, builder.place, DEPTHS, data * 64, pointers);
        return STRUCT;
    }

    public int list(int c, int from, int n, int code, int count, int data, int pointers)
            throws IllegalArgumentException, UnsupportedOperationException, IndexOutOfBoundsException {
        badIf(!isCursor(c) || !isBuildSource(from) || !isWithin(code, OF_STRUCTS) || !isWithin(count, MOST_COUNT));
        badIf(code == OF_STRUCTS && (!isWithin(data, MOST_ELEMENT) || !isWithin(pointers, MOST_ELEMENT)));
        badIf(!message.isOwn());
        checkPointer(from, n);
        if (code == OF_STRUCTS) {
            builder.addStructs(message, segmentOf(from), placeOf(from, n), count, data, pointers);
            cursors[c].toStructs(builder.segment, builder.place, DEPTHS, count, data, pointers);
        } else {
            builder.addList(message, segmentOf(from), placeOf(from, n), code, count);
            cursors[c].toList(builder.segment, builder.place, DEPTHS, code, count);
        }
        return LIST;
    }

    public void put(int c, int bits, int n, long v)
            throws IllegalArgumentException, UnsupportedOperationException {
        badIf(!isCursor(c) || !isFieldSize(bits) || n < 0 || !message.isOwn());
        Spot spot = cursors[c];
        kindIf(spot.kind != STRUCT && !spot.isListOfPieces(bits));
        badIf(!spot.hasPiece(bits, n));
        message.setPiece(spot.segment, spot.pieceBit(bits, n), bits, v);
    }

    public void putReal(int c, boolean wide, int n, double v)
            throws IllegalArgumentException, UnsupportedOperationException, ArithmeticException {
        int bits = wide ? 64 : 32;
        badIf(!isCursor(c) || n < 0 || !message.isOwn());
        Spot spot = cursors[c];
        kindIf(spot.kind != STRUCT);
        badIf(!spot.hasPiece(bits, n));
        notFiniteIf(!Reals.canHold(v, wide));
        message.setPiece(spot.segment, spot.pieceBit(bits, n), bits, Reals.toBits(v, wide));
    }

    public int pack() throws IndexOutOfBoundsException {
        frame.fill(message);
        spare.count = 0;
        frame.packInto(spare);
        Octets packed = spare;
        spare = octets;
        octets = packed;
        return octets.count;
    }

    public int octet(int k) throws IllegalArgumentException {
        badIf(k < 0 || k >= octets.count);
        return octets.row[k] & 255;
    }

    public int feed(long w, int n) throws IllegalArgumentException, IndexOutOfBoundsException {
        badIf(n < 1 || n > 8);
        noRoomIf(octets.count + n > OCTETS);
        for (int k = 0; k < n; k++) {
            octets.add(octetOf(w, k));
        }
        return octets.count;
    }

    public int drop() {
        int before = octets.count;
        octets.count = 0;
        return before;
    }

    public int take() throws IllegalStateException {
        frame.unpack(octets);
        frame.check();
        frame.empty(message);
        cursorsToNothing();
        return message.segments;
    }

    public int canonical() throws IllegalStateException, IndexOutOfBoundsException {
        canon.make(message, reader);
        message.renew(1);
        message.used[0] = canon.used;
        System.arraycopy(canon.words, 0, message.words[0], 0, canon.used);
        cursorsToNothing();
        return canon.used;
    }

    public int count(int what) throws IllegalArgumentException {
        switch (what) {
            case 0:
                return message.segments;
            case 1:
                return octets.count;
            case 2:
                return reader.allowance;
            case 3:
                return message.isOwn() ? 1 : 0;
            case 4:
            case 5:
            case 6:
            case 7:
                return message.used[what - 4];
            case 8:
                return message.size;
            default:
                throw new IllegalArgumentException("no such thing to count");
        }
    }

    private void cursorsToNothing() {
        for (int c = 0; c < CURSORS; c++) {
            cursors[c].toNothing();
        }
    }

    private long fieldOf(Spot spot, int bits, int n) {
        return spot.hasPiece(bits, n) ? message.piece(spot.segment, spot.pieceBit(bits, n), bits) : 0;
    }

    /** KIND, then BAD, if there is no POINTER n to build from. */
    private void checkPointer(int from, int n) {
        if (from >= 0) {
            Spot spot = cursors[from];
            kindIf(spot.kind != STRUCT && !spot.isPointerList());
            badIf(n < 0 || n >= spot.pointerCount());
        }
    }

    private int segmentOf(int from) {
        return from < 0 ? 0 : cursors[from].segment;
    }

    private int placeOf(int from, int n) {
        return from < 0 ? 0 : cursors[from].pointerPlace(n);
    }

    private static boolean isCursor(int c) {
        return c >= 0 && c < CURSORS;
    }

    private static boolean isBuildSource(int from) {
        return from == -1 || isCursor(from);
    }

    private static boolean isWithin(int n, int most) {
        return n >= 0 && n <= most;
    }

    private static boolean isFieldSize(int bits) {
        return bits == 1 || bits == 8 || bits == 16 || bits == 32 || bits == 64;
    }

    private static long ones(int bits) {
        return bits >= 64 ? -1L : (1L << bits) - 1;
    }

    private static long signed(long raw, int bits) {
        return bits == 1 ? raw : raw << (64 - bits) >> (64 - bits);
    }

    private static int octetOf(long w, int k) {
        return (int) (w >>> 8 * k) & 255;
    }

    private static int listWords(int code, int count) {
        return (int) (((long) count * ELEMENT_BITS[code] + 63) / 64);
    }

    private static void badIf(boolean bad) {
        if (bad) {
            throw new IllegalArgumentException("out of range");
        }
    }

    private static void kindIf(boolean other) {
        if (other) {
            throw new UnsupportedOperationException("the cursor stands at something else");
        }
    }

    private static void malformedIf(boolean malformed) {
        if (malformed) {
            throw new IllegalStateException("malformed");
        }
    }

    private static void noRoomIf(boolean full) {
        if (full) {
            throw new IndexOutOfBoundsException("no room");
        }
    }

    private static void notFiniteIf(boolean notFinite) {
        if (notFinite) {
            throw new ArithmeticException("no finite number");
        }
    }

    /** The SEGMENTS. No WORD behind the used ones is ever other than 0, so that new ones need no clearing. */
    private static final class Message {
        private final long[][] words = new long[SEGMENTS][WORDS];
        private final int[] used = new int[SEGMENTS];
        private int segments = 1;
        /** SIZE while the MESSAGE is OWN, else 0. */
        private int size;

        private void renew(int n) {
            for (int s = 0; s < SEGMENTS; s++) {
                Arrays.fill(words[s], 0L);
                used[s] = 0;
            }
            segments = n;
            size = 0;
        }

        private boolean isOwn() {
            return size > 0;
        }

        private boolean holds(long s, int k) {
            return s >= 0 && s < segments && k >= 0 && k < used[(int) s];
        }

        private boolean hasRoom(int s, int n) {
            return size - used[s] >= n;
        }

        /** The first SEGMENT that has n WORDS left, -1 if none has. */
        private int firstWithRoom(int n) {
            for (int s = 0; s < segments; s++) {
                if (hasRoom(s, n)) {
                    return s;
                }
            }
            return -1;
        }

        private int claim(int s, int n) {
            int place = used[s];
            used[s] += n;
            return place;
        }

        private long piece(int s, int bit, int bits) {
            return words[s][bit / 64] >>> bit % 64 & ones(bits);
        }

        private void setPiece(int s, int bit, int bits, long v) {
            long mask = ones(bits) << bit % 64;
            words[s][bit / 64] = words[s][bit / 64] & ~mask | v << bit % 64 & mask;
        }
    }

    /** Takes a WORD apart as a POINTER, and puts one together. */
    private static final class Pointer {
        private static final int TO_STRUCT = 0, TO_LIST = 1, FAR = 2;
        private static final long OFFSET_BITS = 0xFFFFFFFCL;

        private static int kind(long w) {
            return (int) w & 3;
        }

        /** Whether it is a STRUCT's or a LIST's; NOTHING passes for a STRUCT without WORDS. */
        private static boolean isNear(long w) {
            return (w & 2) == 0;
        }

        private static int offset(long w) {
            return (int) w >> 2;
        }

        private static int data(long w) {
            return (int) (w >>> 32) & 0xFFFF;
        }

        private static int pointers(long w) {
            return (int) (w >>> 48);
        }

        private static int code(long w) {
            return (int) (w >>> 32) & 7;
        }

        private static int elements(long w) {
            return (int) (w >>> 35);
        }

        private static boolean isDouble(long w) {
            return (w & 4) != 0;
        }

        private static int farPlace(long w) {
            return (int) w >>> 3;
        }

        private static long farSegment(long w) {
            return w >>> 32;
        }

        private static long toStruct(int data, int pointers) {
            return TO_STRUCT | (long) data << 32 | (long) pointers << 48;
        }

        private static long toList(int code, int count) {
            return TO_LIST | (long) code << 32 | (long) count << 35;
        }

        private static long toFar(boolean isDouble, int segment, int place) {
            return FAR | (isDouble ? 4 : 0) | (long) place << 3 | (long) segment << 32;
        }

        private static long withOffset(long w, int offset) {
            return w & ~OFFSET_BITS | (long) offset << 2 & OFFSET_BITS;
        }
    }

    /** Where a CURSOR stands; all is 0 where there is no such thing. */
    private static final class Spot {
        private int kind;
        private int depth;
        private int segment;
        private int place;
        /** The bit of its first WORD with which the DATA begins: elements may lie within a WORD. */
        private int shift;
        /** Of the STRUCT, or of each element of the LIST. */
        private int dataBits;
        private int pointers;
        private int count;
        private int code;

        private void toNothing() {
            stand(NOTHING, 0, 0, 0);
        }

        private void toStruct(int segment, int place, int depth, int dataBits, int pointers) {
            stand(STRUCT, segment, place, depth);
            this.dataBits = dataBits;
            this.pointers = pointers;
        }

        private void toList(int segment, int place, int depth, int code, int count) {
            stand(LIST, segment, place, depth);
            this.code = code;
            this.count = count;
            dataBits = code <= OF_LONGS ? ELEMENT_BITS[code] : 0;
            pointers = code == OF_POINTERS ? 1 : 0;
        }

        private void toStructs(int segment, int place, int depth, int count, int data, int pointers) {
            stand(LIST, segment, place, depth);
            this.code = OF_STRUCTS;
            this.count = count;
            this.dataBits = data * 64;
            this.pointers = pointers;
        }

        private void toElement(Spot list, int n) {
            int bit = list.firstElement() * 64 + n * (list.dataBits + list.pointers * 64);
            toStruct(list.segment, bit / 64, list.depth, list.dataBits, list.pointers);
            shift = bit % 64;
        }

        private void stand(int kind, int segment, int place, int depth) {
            this.kind = kind;
            this.segment = segment;
            this.place = place;
            this.depth = depth;
            shift = 0;
            dataBits = 0;
            pointers = 0;
            count = 0;
            code = 0;
        }

        private int firstElement() {
            return code == OF_STRUCTS ? place + 1 : place;
        }

        private int dataWords() {
            return dataBits / 64;
        }

        private boolean isPointerList() {
            return kind == LIST && code == OF_POINTERS;
        }

        private int pointerCount() {
            return kind == LIST ? count : pointers;
        }

        private int pointerPlace(int n) {
            return place + dataWords() + n;
        }

        private boolean isListOfPieces(int bits) {
            return kind == LIST && code >= OF_BITS && code <= OF_LONGS && ELEMENT_BITS[code] == bits;
        }

        private boolean hasPiece(int bits, int n) {
            return kind == LIST ? n < count : (n + 1L) * bits <= dataBits;
        }

        private int pieceBit(int bits, int n) {
            return place * 64 + shift + n * bits;
        }
    }

    /** FOLLOWS POINTERS, as far as the ALLOWANCE lasts. */
    private static final class Reader {
        private int allowance = FIRST_ALLOWANCE;
        /** What the last POINTER leads to: where it begins, and a WORD that says what it is. */
        private int segment;
        private int place;
        private long what;

        /** Lets the spot stand at what the POINTER at that place leads to; it stays if that is MALFORMED. */
        private void lead(Message message, Spot spot, int fromSegment, int fromPlace, int depth) {
            long pointer = message.words[fromSegment][fromPlace];
            if (pointer == 0) {
                spot.toNothing();
                return;
            }
            find(message, pointer, fromSegment, fromPlace);
            malformedIf(depth == 0);
            if (Pointer.kind(what) == Pointer.TO_STRUCT) {
                leadToStruct(message, spot, depth - 1);
            } else if (Pointer.code(what) == OF_STRUCTS) {
                leadToStructs(message, spot, depth - 1);
            } else {
                leadToList(message, spot, depth - 1);
            }
        }

        private void find(Message message, long pointer, int fromSegment, int fromPlace) {
            if (Pointer.kind(pointer) != Pointer.FAR) {
                findNear(pointer, fromSegment, fromPlace);
                return;
            }
            long s = Pointer.farSegment(pointer);
            int k = Pointer.farPlace(pointer);
            malformedIf(!message.holds(s, k));
            if (Pointer.isDouble(pointer)) {
                malformedIf(!message.holds(s, k + 1));
                findDouble(message, message.words[(int) s][k], message.words[(int) s][k + 1]);
            } else {
                malformedIf(message.words[(int) s][k] == 0);
                findNear(message.words[(int) s][k], (int) s, k);
            }
        }

        private void findNear(long pointer, int fromSegment, int fromPlace) {
            malformedIf(!Pointer.isNear(pointer));
            segment = fromSegment;
            place = fromPlace + 1 + Pointer.offset(pointer);
            what = pointer;
        }

        private void findDouble(Message message, long far, long like) {
            malformedIf(Pointer.kind(far) != Pointer.FAR || Pointer.isDouble(far));
            malformedIf(Pointer.farSegment(far) >= message.segments);
            malformedIf(!Pointer.isNear(like) || Pointer.offset(like) != 0);
            segment = (int) Pointer.farSegment(far);
            place = Pointer.farPlace(far);
            what = like;
        }

        private void leadToStruct(Message message, Spot spot, int depth) {
            int data = Pointer.data(what);
            int pointers = Pointer.pointers(what);
            checkWithin(message, data + pointers);
            charge(data + pointers);
            spot.toStruct(segment, place, depth, data * 64, pointers);
        }

        private void leadToList(Message message, Spot spot, int depth) {
            int code = Pointer.code(what);
            int count = Pointer.elements(what);
            int words = listWords(code, count);
            checkWithin(message, words);
            charge(code == OF_NO_BITS ? count : words);
            spot.toList(segment, place, depth, code, count);
        }

        private void leadToStructs(Message message, Spot spot, int depth) {
            int words = Pointer.elements(what);
            checkWithin(message, words + 1);
            long tag = message.words[segment][place];
            int count = Pointer.offset(tag);
            int data = Pointer.data(tag);
            int pointers = Pointer.pointers(tag);
            malformedIf(Pointer.kind(tag) != Pointer.TO_STRUCT || count < 0);
            malformedIf((long) count * (data + pointers) > words);
            charge(words + 1 + (data + pointers == 0 ? count : 0));
            spot.toStructs(segment, place, depth, count, data, pointers);
        }

        private void checkWithin(Message message, int words) {
            malformedIf(place < 0 || place > message.used[segment] - words);
        }

        private void charge(int words) {
            malformedIf(words > allowance);
            allowance -= words;
        }
    }

    /** ALLOCATES WORDS in a MESSAGE that is OWN, and lets a POINTER lead to them. */
    private static final class Builder {
        /** Where what was built last begins. */
        private int segment;
        private int place;

        private void addStruct(Message message, int s, int k, int data, int pointers) {
            long like = Pointer.toStruct(data, pointers);
            if (data + pointers == 0) {
                message.words[s][k] = Pointer.withOffset(like, -1);
                segment = s;
                place = k;
            } else {
                allocate(message, s, k, like, data + pointers);
            }
        }

        private void addList(Message message, int s, int k, int code, int count) {
            allocate(message, s, k, Pointer.toList(code, count), listWords(code, count));
        }

        private void addStructs(Message message, int s, int k, int count, int data, int pointers) {
            int words = count * (data + pointers);
            allocate(message, s, k, Pointer.toList(OF_STRUCTS, words), words + 1);
            message.words[segment][place] = Pointer.withOffset(Pointer.toStruct(data, pointers), count);
        }

        /** For the POINTER at WORD k of SEGMENT s, which becomes like the one given, but for its OFFSET. */
        private void allocate(Message message, int s, int k, long like, int n) {
            if (message.hasRoom(s, n)) {
                segment = s;
                place = message.claim(s, n);
                message.words[s][k] = Pointer.withOffset(like, place - k - 1);
                return;
            }
            int padSegment = message.firstWithRoom(n + 1);
            if (padSegment < 0) {
                if (allocateDouble(message, s, k, like, n)) {
                    return;
                }
                padSegment = newSegment(message, n + 1);
            }
            int pad = message.claim(padSegment, n + 1);
            message.words[s][k] = Pointer.toFar(false, padSegment, pad);
            message.words[padSegment][pad] = like;
            segment = padSegment;
            place = pad + 1;
        }

        /** Comes when no SEGMENT has n + 1 left, so that the pad never lies in the one that takes the n WORDS. */
        private boolean allocateDouble(Message message, int s, int k, long like, int n) {
            int target = message.firstWithRoom(n);
            if (target < 0) {
                return false;
            }
            int begin = message.claim(target, n);
            int padSegment = message.firstWithRoom(2);
            if (padSegment < 0) {
                message.used[target] = begin;
                return false;
            }
            int pad = message.claim(padSegment, 2);
            message.words[s][k] = Pointer.toFar(true, padSegment, pad);
            message.words[padSegment][pad] = Pointer.toFar(false, target, begin);
            message.words[padSegment][pad + 1] = like;
            segment = target;
            place = begin;
            return true;
        }

        private int newSegment(Message message, int n) {
            noRoomIf(message.segments >= SEGMENTS || n > message.size);
            message.segments++;
            return message.segments - 1;
        }
    }

    /** A row of octets. */
    private static final class Octets {
        private final byte[] row = new byte[OCTETS];
        private int count;

        private void add(int octet) {
            noRoomIf(count >= OCTETS);
            row[count] = (byte) octet;
            count++;
        }
    }

    /** A FRAMED MESSAGE, as groups of 8 octets, on its way to PACKED octets or from them. */
    private static final class Frame {
        private final long[] groups = new long[GROUPS];
        private int count;
        /** The next octet to unpack. */
        private int next;

        private void fill(Message message) {
            count = headGroups(message.segments);
            for (int g = 0; g < count; g++) {
                groups[g] = numberInFront(message, 2 * g) | numberInFront(message, 2 * g + 1) << 32;
            }
            for (int s = 0; s < message.segments; s++) {
                System.arraycopy(message.words[s], 0, groups, count, message.used[s]);
                count += message.used[s];
            }
        }

        private static int headGroups(int segments) {
            return segments / 2 + 1;
        }

        /** The k-th of the numbers in front of a MESSAGE; behind the last one stands 0. */
        private static long numberInFront(Message message, int k) {
            if (k == 0) {
                return message.segments - 1;
            }
            return k <= message.segments ? message.used[k - 1] : 0;
        }

        /** The k-th of the numbers in front of the groups. */
        private long headNumber(int k) {
            return groups[k / 2] >>> 32 * (k % 2) & 0xFFFFFFFFL;
        }

        private void packInto(Octets octets) {
            int g = 0;
            while (g < count) {
                int tag = tagOf(groups[g]);
                octets.add(tag);
                addOctets(octets, groups[g], tag);
                g++;
                if (tag == 0 || tag == 255) {
                    int run = tag == 0 ? zeroRun(g) : fullRun(g);
                    octets.add(run);
                    for (int k = 0; tag == 255 && k < run; k++) {
                        addOctets(octets, groups[g + k], 255);
                    }
                    g += run;
                }
            }
        }

        private static int tagOf(long group) {
            int tag = 0;
            for (int k = 0; k < 8; k++) {
                if (octetOf(group, k) != 0) {
                    tag |= 1 << k;
                }
            }
            return tag;
        }

        private static void addOctets(Octets octets, long group, int tag) {
            for (int k = 0; k < 8; k++) {
                if ((tag >> k & 1) != 0) {
                    octets.add(octetOf(group, k));
                }
            }
        }

        private int zeroRun(int from) {
            int run = 0;
            while (run < 255 && from + run < count && groups[from + run] == 0) {
                run++;
            }
            return run;
        }

        private int fullRun(int from) {
            int run = 0;
            while (run < 255 && from + run < count && Integer.bitCount(tagOf(groups[from + run])) >= 7) {
                run++;
            }
            return run;
        }

        private void unpack(Octets octets) {
            count = 0;
            next = 0;
            // Each round takes one octet at least.
            for (int round = 0; round < OCTETS && next < octets.count; round++) {
                int tag = nextOctet(octets);
                addGroup(nextGroup(octets, tag));
                if (tag == 0 || tag == 255) {
                    int run = nextOctet(octets);
                    for (int k = 0; k < run; k++) {
                        addGroup(nextGroup(octets, tag));
                    }
                }
            }
        }

        private int nextOctet(Octets octets) {
            malformedIf(next >= octets.count);
            next++;
            return octets.row[next - 1] & 255;
        }

        private long nextGroup(Octets octets, int tag) {
            long group = 0;
            for (int k = 0; k < 8; k++) {
                if ((tag >> k & 1) != 0) {
                    group |= (long) nextOctet(octets) << 8 * k;
                }
            }
            return group;
        }

        /** More groups than the greatest MESSAGE has are MALFORMED, whatever comes behind them. */
        private void addGroup(long group) {
            malformedIf(count >= GROUPS);
            groups[count] = group;
            count++;
        }

        /** MALFORMED if the groups are not those that the numbers in front say. */
        private void check() {
            malformedIf(count == 0 || headNumber(0) >= SEGMENTS);
            int segments = (int) headNumber(0) + 1;
            int due = headGroups(segments);
            malformedIf(count < due);
            for (int s = 0; s < segments; s++) {
                malformedIf(headNumber(s + 1) > WORDS);
                due += (int) headNumber(s + 1);
            }
            malformedIf(count != due);
        }

        private void empty(Message message) {
            int segments = (int) headNumber(0) + 1;
            int g = headGroups(segments);
            message.renew(segments);
            for (int s = 0; s < segments; s++) {
                int words = (int) headNumber(s + 1);
                System.arraycopy(groups, g, message.words[s], 0, words);
                message.used[s] = words;
                g += words;
            }
        }
    }

    /** What is copied on one level of a CANONICAL MESSAGE: STRUCTS or POINTERS in a row, there and here. */
    private static final class Level {
        private final Spot spot = new Spot();
        private int elements;
        /** In the MESSAGE: the first element's place, the DATA and POINTERS of each. */
        private int from;
        private int fromData;
        private int fromPointers;
        /** In what is made of it: the first element's place, the DATA and POINTERS of each that are kept. */
        private int to;
        private int data;
        private int pointers;

        private void span(int elements, int from) {
            this.elements = elements;
            this.from = from;
            fromData = spot.dataWords();
            fromPointers = spot.pointers;
            data = 0;
            pointers = 0;
        }

        private int elementFrom(int e) {
            return from + e * (fromData + fromPointers);
        }

        private int elementTo(int e) {
            return to + e * (data + pointers);
        }

        /** Keeps the least DATA and POINTERS that all elements need. */
        private void measure(long[] words) {
            for (int e = 0; e < elements; e++) {
                int begin = elementFrom(e);
                data = Math.max(data, needed(words, begin, fromData));
                pointers = Math.max(pointers, needed(words, begin + fromData, fromPointers));
            }
        }

        private static int needed(long[] words, int begin, int length) {
            int n = length;
            while (n > 0 && words[begin + n - 1] == 0) {
                n--;
            }
            return n;
        }
    }

    /** Makes the WORDS of a CANONICAL MESSAGE. */
    private static final class Canon {
        private final long[] words = new long[WORDS];
        private int used;
        /** One for each DEPTH, since those further up are in use still. */
        private final Level[] levels = new Level[DEPTHS + 1];

        private Canon() {
            for (int depth = 0; depth <= DEPTHS; depth++) {
                levels[depth] = new Level();
            }
        }

        private void make(Message message, Reader reader) {
            malformedIf(!message.holds(0, 0));
            Arrays.fill(words, 0L);
            used = 1;
            copy(message, reader, 0, 0, 0, DEPTHS);
        }

        /** Copies what a POINTER leads to. FOLLOWING refuses DEPTH 0, so no level is below that. */
        private void copy(Message message, Reader reader, int segment, int place, int target, int depth) {
            Level level = levels[depth];
            reader.lead(message, level.spot, segment, place, depth);
            if (level.spot.kind == NOTHING) {
                return;
            }
            lay(message.words[level.spot.segment], level, target);
            for (int e = 0; e < level.elements; e++) {
                int from = level.elementFrom(e) + level.fromData;
                int to = level.elementTo(e) + level.data;
                for (int p = 0; p < level.pointers; p++) {
                    copy(message, reader, level.spot.segment, from + p, to + p, depth - 1);
                }
            }
        }

        /** Lays down a thing itself, without what its POINTERS lead to. */
        private void lay(long[] source, Level level, int target) {
            if (level.spot.kind == STRUCT) {
                layStruct(source, level, target);
            } else if (level.spot.code == OF_STRUCTS) {
                layStructs(source, level, target);
            } else if (level.spot.code == OF_POINTERS) {
                layPointers(level, target);
            } else {
                layNumbers(source, level, target);
            }
        }

        private void layStruct(long[] source, Level level, int target) {
            level.span(1, level.spot.place);
            level.measure(source);
            int length = level.data + level.pointers;
            level.to = claim(length);
            int offset = length == 0 ? -1 : level.to - target - 1;
            words[target] = Pointer.withOffset(Pointer.toStruct(level.data, level.pointers), offset);
            copyData(source, level);
        }

        private void layStructs(long[] source, Level level, int target) {
            Spot spot = level.spot;
            // Without WORDS there is nothing to copy, however many there are.
            level.span(spot.dataBits + spot.pointers == 0 ? 0 : spot.count, spot.firstElement());
            level.measure(source);
            int length = level.elements * (level.data + level.pointers);
            int tag = claim(length + 1);
            level.to = tag + 1;
            words[target] = Pointer.withOffset(Pointer.toList(OF_STRUCTS, length), tag - target - 1);
            words[tag] = Pointer.withOffset(Pointer.toStruct(level.data, level.pointers), spot.count);
            copyData(source, level);
        }

        private void layPointers(Level level, int target) {
            level.span(level.spot.count, level.spot.place);
            level.pointers = 1;
            level.to = claim(level.elements);
            words[target] = Pointer.withOffset(Pointer.toList(OF_POINTERS, level.elements), level.to - target - 1);
        }

        private void layNumbers(long[] source, Level level, int target) {
            Spot spot = level.spot;
            level.span(0, spot.place);
            int length = listWords(spot.code, spot.count);
            int begin = claim(length);
            words[target] = Pointer.withOffset(Pointer.toList(spot.code, spot.count), begin - target - 1);
            System.arraycopy(source, spot.place, words, begin, length);
            int lastBits = spot.count * ELEMENT_BITS[spot.code] % 64;
            if (lastBits != 0) {
                words[begin + length - 1] &= ones(lastBits);
            }
        }

        private void copyData(long[] source, Level level) {
            for (int e = 0; e < level.elements; e++) {
                System.arraycopy(source, level.elementFrom(e), words, level.elementTo(e), level.data);
            }
        }

        private int claim(int n) {
            noRoomIf(used + n > WORDS);
            int place = used;
            used += n;
            return place;
        }
    }

    /** Floats and doubles from their bits and back, by arithmetic alone, each step of which is exact. */
    private static final class Reals {
        private static final int STEP = 32;

        private static int fractionBits(boolean wide) {
            return wide ? 52 : 23;
        }

        private static int mostExponent(boolean wide) {
            return wide ? 2047 : 255;
        }

        private static int bias(boolean wide) {
            return wide ? 1023 : 127;
        }

        private static int exponentOf(long raw, boolean wide) {
            return (int) (raw >>> fractionBits(wide)) & mostExponent(wide);
        }

        private static boolean isFinite(long raw, boolean wide) {
            return exponentOf(raw, wide) != mostExponent(wide);
        }

        private static double fromBits(long raw, boolean wide) {
            int bits = fractionBits(wide);
            long fraction = raw & ones(bits);
            int exponent = exponentOf(raw, wide);
            // The numbers below the normal ones lack the leading 1, and share the least exponent.
            double size = exponent == 0 ? (double) fraction : (double) (fraction | 1L << bits);
            double value = scaled(size, Math.max(exponent, 1) - bias(wide) - bits);
            boolean negative = (raw >>> (wide ? 63 : 31) & 1) != 0;
            return negative ? -value : value;
        }

        private static double scaled(double value, int power) {
            double result = value;
            int left = Math.abs(power);
            double step = 4294967296.0;
            while (left > 0) {
                if (left < STEP) {
                    step = 2.0;
                }
                result = power > 0 ? result * step : result / step;
                left -= left < STEP ? 1 : STEP;
            }
            return result;
        }

        /** Whether v, made a float or double, is finite. */
        private static boolean canHold(double v, boolean wide) {
            double most = 1.7976931348623157E308;
            if (!(v >= -most && v <= most)) {
                return false;
            }
            double mostNarrow = 3.4028234663852886E38;
            double narrow = (double) (float) v;
            return wide || narrow >= -mostNarrow && narrow <= mostNarrow;
        }

        private static long toBits(double v, boolean wide) {
            double value = wide ? v : (double) (float) v;
            boolean negative = value < 0 || value == 0 && 1.0 / value < 0;
            long sign = negative ? 1L << (wide ? 63 : 31) : 0;
            return sign | sizeBits(value < 0 ? -value : value, wide);
        }

        /** Doubles or halves it until its digits are a whole number with as many bits as there are, and counts. */
        private static long sizeBits(double size, boolean wide) {
            if (size == 0) {
                return 0;
            }
            int bits = fractionBits(wide);
            double low = (double) (1L << bits);
            double digits = size;
            int power = 0;
            for (int k = 0; k < 40 && digits >= low * 4294967296.0; k++) {
                digits /= 4294967296.0;
                power += STEP;
            }
            for (int k = 0; k < 40 && digits < low / 4294967296.0; k++) {
                digits *= 4294967296.0;
                power -= STEP;
            }
            for (int k = 0; k < STEP + 1 && digits >= low * 2; k++) {
                digits /= 2;
                power++;
            }
            for (int k = 0; k < STEP + 1 && digits < low; k++) {
                digits *= 2;
                power--;
            }
            return joined((long) digits, power + bits + bias(wide), bits);
        }

        private static long joined(long digits, int exponent, int bits) {
            if (exponent >= 1) {
                return (long) exponent << bits | digits & ones(bits);
            }
            return digits >>> 1 - exponent;
        }
    }
}

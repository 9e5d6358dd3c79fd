import java.util.Map;
import java.util.Random;
import java.util.TreeMap;

/** Runs of calls picked by a fixed seed: SegmentDesk has to answer as the Model does, and to stand as it stands. */
public final class ModelTest {
    private static final int RUNS = 9000;
    /** So few that an object has calls left, of its 512, to look at how it stands. */
    private static final int CALLS = 150;

    private static final Map<String, Integer> OUTCOMES = new TreeMap<>();

    private final Random random;
    private final SegmentDesk desk = new SegmentDesk();
    private final Model model = new Model();
    /** What most calls of the run are about: 0 words that are set, 1 building, 2 octets. */
    private final int mood;

    private ModelTest(int seed) {
        random = new Random(seed);
        mood = seed % 3;
    }

    public static void main(String[] args) {
        int runs = args.length > 0 ? Integer.parseInt(args[0]) : RUNS;
        for (int seed = 0; seed < runs; seed++) {
            new ModelTest(seed).run(seed);
        }
        if (args.length > 0) {
            System.out.println(OUTCOMES);
        }
        Check.end();
    }

    private interface Face {
        Object call();
    }

    private void run(int seed) {
        int calls = 1 + random.nextInt(CALLS);
        for (int k = 0; k < calls; k++) {
            String name = step();
            if (name != null) {
                Check.tell("run " + seed + ", call " + k + ": " + name);
                return;
            }
        }
        if (!sameState(seed % 5)) {
            Check.tell("run " + seed + " stands otherwise after " + calls + " calls");
            return;
        }
        // What was built in the end is made canonical, whatever it is.
        String last = compare("canonical()", () -> desk.canonical(), () -> model.canonical());
        if (last != null || model.count(0) == 1 && !sameWords()) {
            Check.tell("run " + seed + " at its end: " + last);
        }
    }

    private static String outcome(Face face) {
        try {
            Object answer = face.call();
            return answer instanceof Double d ? "bits " + Double.doubleToRawLongBits(d) : String.valueOf(answer);
        } catch (RuntimeException e) {
            return e.getClass().getSimpleName();
        }
    }

    /** Answers null, or what went wrong. */
    private String compare(String name, Face ours, Face theirs) {
        Check.seen();
        String got = outcome(ours);
        String due = outcome(theirs);
        String kind = name.substring(0, name.indexOf('('));
        OUTCOMES.merge(kind + (due.endsWith("Exception") ? " " + due : ""), 1, Integer::sum);
        return got.equals(due) ? null : name + " answered " + got + ", due is " + due;
    }

    private int pick(int... of) {
        return of[random.nextInt(of.length)];
    }

    private boolean seldom() {
        return random.nextInt(40) == 0;
    }

    private int cursor() {
        return seldom() ? pick(-2, -1, 16, 15) : random.nextInt(5);
    }

    /** Mostly a CURSOR that stands at that kind, so that most calls lead somewhere. */
    private int cursorAt(int kind) {
        for (int k = 0; k < 8 && !seldom(); k++) {
            int c = random.nextInt(5);
            if (model.look(c, 0) == kind) {
                return c;
            }
        }
        return cursor();
    }

    private int small(int below) {
        return seldom() ? pick(-1, 64, 65, 21, 9, Integer.MAX_VALUE, Integer.MIN_VALUE) : random.nextInt(below);
    }

    private int fieldSize() {
        return seldom() ? pick(0, 2, -1, 128) : pick(1, 8, 16, 32, 64);
    }

    private long pointer() {
        int offset = random.nextInt(12) - 3;
        int a = random.nextInt(4);
        int b = random.nextInt(4);
        switch (random.nextInt(14)) {
            case 0:
            case 1:
            case 2:
            case 3:
                return Words.struct(offset, a, b);
            case 4:
            case 5:
                return Words.list(offset, random.nextInt(7), random.nextInt(10));
            case 6:
                return Words.list(offset, 7, random.nextInt(10));
            case 7:
                return Words.list(offset, 6, random.nextInt(4));
            case 8:
                return Words.far(random.nextInt(4), random.nextInt(8));
            case 9:
                return Words.doubleFar(random.nextInt(4), random.nextInt(8));
            case 10:
                return 0;
            case 11:
                return random.nextInt(300);
            case 12:
                return random.nextLong() >>> random.nextInt(64);
            default:
                return Words.list(offset, pick(0, 1, 7), pick(70, 130, 600, 0x1FFFFFFF));
        }
    }

    private long value() {
        return random.nextBoolean() ? random.nextLong() >>> random.nextInt(64) : -random.nextInt(3);
    }

    private double realValue() {
        switch (random.nextInt(6)) {
            case 0:
                return Double.longBitsToDouble(random.nextLong());
            case 1:
                return Float.intBitsToFloat(random.nextInt());
            case 2:
                return random.nextGaussian() * 1e38;
            case 3:
                return random.nextGaussian() * 1e-40;
            case 4:
                return pick(0, 1, -5, 16777217, 16777219);
            default:
                return -0.0;
        }
    }

    private String step() {
        int roll = random.nextInt(100);
        if (mood == 1 && model.count(3) == 0 && roll < 50) {
            return beginning();
        }
        if (roll < (mood == 1 ? 1 : 4)) {
            return shaping();
        }
        if (mood == 0 || roll < 8) {
            return roll < 50 ? setting() : roll < 90 ? reading() : octets();
        }
        if (mood == 1) {
            return roll < 60 ? building() : roll < 94 ? reading() : octets();
        }
        return roll < 30 ? building() : roll < 40 ? setting() : roll < 60 ? reading() : octets();
    }

    private String shaping() {
        int roll = random.nextInt(12);
        if (roll < 3 || mood == 0 && roll < 8) {
            int n = small(5);
            int[] l = {small(20), small(20), small(20), small(20)};
            return compare("segment(" + n + ", " + l[0] + ", " + l[1] + ", " + l[2] + ", " + l[3] + ")", () -> {
                desk.segment(n, l[0], l[1], l[2], l[3]);
                return 0;
            }, () -> {
                model.segment(n, l[0], l[1], l[2], l[3]);
                return 0;
            });
        }
        if (roll < 9) {
            return beginning();
        }
        if (roll < 10) {
            int n = seldom() ? pick(-1, 100001) : pick(0, 5, 30, 1000, 100000);
            return compare("allow(" + n + ")", () -> desk.allow(n), () -> model.allow(n));
        }
        return roll < 11 ? compare("canonical()", () -> desk.canonical(), () -> model.canonical())
                : compare("take()", () -> desk.take(), () -> model.take());
    }

    private String beginning() {
        int size = seldom() ? small(66) : pick(3, 5, 8, 10, 14, 20, 40, 64);
        return compare("begin(" + size + ")", () -> {
            desk.begin(size);
            return 0;
        }, () -> {
            model.begin(size);
            return 0;
        });
    }

    private String setting() {
        int s = seldom() ? small(5) : random.nextInt(Math.max(1, model.count(0)));
        int words = s >= 0 && s < 4 ? model.count(4 + s) : 0;
        int k = seldom() || words == 0 ? small(20) : random.nextInt(Math.min(words, 9));
        long w = pointer();
        if (mood != 0 && random.nextInt(6) != 0) {
            return compare("at(" + s + ", " + k + ")", () -> desk.at(s, k), () -> model.at(s, k));
        }
        return compare("word(" + s + ", " + k + ", " + w + ")", () -> desk.word(s, k, w), () -> model.word(s, k, w));
    }

    private String reading() {
        int c = cursor();
        int from = cursorAt(pick(1, 1, 2));
        int ofList = cursorAt(2);
        int ofStruct = cursorAt(1);
        int n = small(5);
        boolean wide = random.nextBoolean();
        int bits = fieldSize();
        long mask = value();
        switch (random.nextInt(mood == 1 ? 11 : 12)) {
            case 0:
            case 1:
                int depth = seldom() ? pick(-1, 65, 0, 1) : pick(1, 2, 3, 64);
                return compare("root(" + c + ", " + depth + ")", () -> desk.root(c, depth), () -> model.root(c, depth));
            case 2:
            case 3:
            case 4:
                return compare("follow(" + c + ", " + from + ", " + n + ")", () -> desk.follow(c, from, n),
                        () -> model.follow(c, from, n));
            case 5:
            case 6:
                return compare("element(" + c + ", " + ofList + ", " + n + ")", () -> desk.element(c, ofList, n),
                        () -> model.element(c, ofList, n));
            case 7:
                return compare("number(" + ofStruct + ", " + bits + ", " + n + ", " + mask + ")",
                        () -> desk.number(ofStruct, bits, n, mask), () -> model.number(ofStruct, bits, n, mask));
            case 8:
                return compare("real(" + ofStruct + ", " + wide + ", " + n + ")", () -> desk.real(ofStruct, wide, n),
                        () -> model.real(ofStruct, wide, n));
            case 9:
                return compare("item(" + ofList + ", " + n + ")", () -> desk.item(ofList, n),
                        () -> model.item(ofList, n));
            case 10:
                int what = small(9);
                return compare("look(" + c + ", " + what + ")", () -> desk.look(c, what), () -> model.look(c, what));
            default:
                return random.nextInt(3) > 0 ? reading()
                        : compare("canonical()", () -> desk.canonical(), () -> model.canonical());
        }
    }

    private String building() {
        int c = cursor();
        int from = random.nextInt(5) == 0 ? -1 : cursorAt(pick(1, 1, 2));
        int to = cursorAt(pick(1, 1, 1, 2));
        int n = small(3);
        int data = small(5);
        int pointers = small(5);
        switch (random.nextInt(7)) {
            case 0:
            case 1:
            case 2:
                return compare("struct(" + c + ", " + from + ", " + n + ", " + data + ", " + pointers + ")",
                        () -> desk.struct(c, from, n, data, pointers), () -> model.struct(c, from, n, data, pointers));
            case 3:
            case 4:
                int code = seldom() ? pick(-1, 8) : pick(0, 1, 2, 3, 4, 5, 6, 6, 7, 7);
                int count = random.nextInt(8) == 0 ? small(66) : small(5);
                return compare("list(" + c + ", " + from + ", " + n + ", " + code + ", " + count + ", " + data + ", "
                        + pointers + ")", () -> desk.list(c, from, n, code, count, data, pointers),
                        () -> model.list(c, from, n, code, count, data, pointers));
            case 5:
                int bits = fieldSize();
                long v = value();
                return compare("put(" + to + ", " + bits + ", " + n + ", " + v + ")", () -> {
                    desk.put(to, bits, n, v);
                    return 0;
                }, () -> {
                    model.put(to, bits, n, v);
                    return 0;
                });
            default:
                boolean wide = random.nextBoolean();
                double r = realValue();
                return compare("putReal(" + to + ", " + wide + ", " + n + ", " + r + ")", () -> {
                    desk.putReal(to, wide, n, r);
                    return 0;
                }, () -> {
                    model.putReal(to, wide, n, r);
                    return 0;
                });
        }
    }

    private String octets() {
        switch (random.nextInt(8)) {
            case 0:
            case 1:
                return compare("pack()", () -> desk.pack(), () -> model.pack());
            case 2:
                return compare("take()", () -> desk.take(), () -> model.take());
            case 3:
                return random.nextInt(3) > 0 ? octets() : compare("drop()", () -> desk.drop(), () -> model.drop());
            case 4:
            case 5:
                int n = seldom() ? pick(0, 9, -1) : pick(1, 1, 2, 8);
                long w = random.nextInt(3) == 0 ? value() : pick(0x10, 0, 1, 2, 255, 0x11, 0x110, 0x210, 0x310);
                return compare("feed(" + w + ", " + n + ")", () -> desk.feed(w, n), () -> model.feed(w, n));
            default:
                int k = seldom() ? pick(-1, 1500) : random.nextInt(1 + model.count(1));
                return compare("octet(" + k + ")", () -> desk.octet(k), () -> model.octet(k));
        }
    }

    /** One side of the state at a time; each takes some 270 calls at most. */
    private boolean sameState(int side) {
        switch (side) {
            case 0:
                return sameWords();
            case 1:
                return sameCursors();
            default:
                return sameOctets((side - 2) * 250);
        }
    }

    private boolean sameWords() {
        for (int what = 0; what <= 8; what++) {
            if (desk.count(what) != model.count(what)) {
                return false;
            }
        }
        for (int s = 0; s < model.count(0); s++) {
            for (int k = 0; k < model.count(4 + s); k++) {
                if (desk.at(s, k) != model.at(s, k)) {
                    return false;
                }
            }
        }
        return true;
    }

    private boolean sameOctets(int from) {
        for (int k = from; k < from + 250 && k < model.count(1); k++) {
            if (desk.octet(k) != model.octet(k)) {
                return false;
            }
        }
        return desk.count(1) == model.count(1);
    }

    private boolean sameCursors() {
        for (int c = 0; c < 16; c++) {
            for (int what = 0; what < 8; what++) {
                if (desk.look(c, what) != model.look(c, what)) {
                    return false;
                }
            }
        }
        return true;
    }
}

import java.util.Arrays;
import java.util.Random;

/** Runs of calls, chosen by seeds that never change, are answered as the model answers them. */
public final class ModelTest {
    private static final int RUNS = 40000;
    /** What later calls answer is free. */
    private static final int MOST_CALLS = 512;

    private final Random random;
    private final int run;
    private final CopiedGraphs x = new CopiedGraphs();
    private final Model m = new Model();
    private int calls;
    /** What this run's calls are like, so that runs differ more than calls do. */
    private final boolean deep;
    private final boolean harmless;
    private final boolean wordy;
    private final int mostObjects;

    private static final long[] reached = new long[8];

    private ModelTest(int run) {
        this.run = run;
        random = new Random(run);
        deep = random.nextInt(4) == 0;
        harmless = random.nextInt(2) == 0;
        wordy = random.nextInt(4) == 0;
        mostObjects = 4 + random.nextInt(28);
    }

    public static void main(String[] args) {
        for (int run = 0; run < RUNS; run++) {
            ModelTest test = new ModelTest(run);
            int before = 100 + test.pick(350);
            while (test.calls < before) {
                test.call();
            }
            test.compareAll();
        }
        System.out.println("writes done, impossible, harmed; reads done, wrong; holders read; "
            + "longest bytes; most objects: " + Arrays.toString(reached));
        for (int i = 0; i < 6; i++) {
            Check.yes("runs reach case " + i, reached[i] > 1000);
        }
        Check.yes("runs reach long bytes", reached[6] > 280);
        Check.due("runs reach a full room", reached[7], 32);
        Check.end();
    }

    private int pick(int bound) {
        return random.nextInt(bound);
    }

    private int object() {
        return pick(30) == 0 ? pick(40) - 4 : pick(Math.max(1, m.objects()));
    }

    private int objectOf(int type) {
        for (int i = 0; i < 8; i++) {
            int o = object();
            if (m.type(o) == type) {
                return o;
            }
        }
        return object();
    }

    private int number() {
        switch (pick(wordy ? 2 : 8)) {
            case 0:
                return random.nextInt();
            case 1:
                return pick(2) == 0 ? Integer.MIN_VALUE : Integer.MAX_VALUE;
            case 2:
                return pick(20000) - 10000;
            default:
                return pick(8) - 2;
        }
    }

    private int kind() {
        if (pick(60) == 0) {
            return pick(14) - 3;
        }
        if (pick(deep ? 4 : 2) != 0) {
            return 6;
        }
        if (wordy) {
            return 4 + pick(2);
        }
        return pick(harmless || pick(12) != 0 ? 6 : 8);
    }

    private int numberFor(int kind) {
        if (kind == 6) {
            return object();
        }
        if (kind == 5) {
            int[] texts = {0, 97, 0x6261, 0xFF6261, 0x80FF6261, -1, 256, 0x10061, 0x1000061};
            return wordy ? texts[4] : texts[pick(pick(20) == 0 ? 9 : 6)];
        }
        return number();
    }

    private int getter() {
        int action = pick(8);
        if (action == 1 && harmless) {
            action = 3;
        }
        int argument = action == 4 ? objectOf(4) : pick(9) - 3;
        return pick(20) == 0 ? random.nextInt() : action + 8 * argument;
    }

    private void call() {
        int choice = pick(100);
        if (m.objects() < mostObjects && (choice < 16 || m.objects() < 4)) {
            makeOne();
        } else if (choice < 50) {
            change();
        } else if (choice < 56) {
            int o = pick(3) == 0 ? object() : objectOf(4);
            same("pass(" + o + ")", () -> m.pass(o), () -> x.pass(o));
        } else if (choice < 74) {
            writeOne();
        } else if (choice < 84) {
            readOne();
        } else if (choice < 94) {
            bytes();
        } else {
            compareSome();
        }
        compareCounts();
        reached[7] = Math.max(reached[7], m.objects());
    }

    private void makeOne() {
        switch (pick(8)) {
            case 0: {
                long w = random.nextLong();
                int n = pick(30) == 0 ? pick(14) - 3 : pick(9);
                same("buffer(" + w + ", " + n + ")", () -> m.buffer(w, n), () -> x.buffer(w, n));
                break;
            }
            case 1: {
                int b = objectOf(4);
                int unit = pick(10) == 0 ? pick(12) - 2 : 1 << pick(3);
                int from = pick(10) == 0 ? number() : unit * pick(3);
                int count = pick(10) == 0 ? number() : pick(4);
                same("view(" + b + ", " + unit + ", " + from + ", " + count + ")",
                    () -> m.view(b, unit, from, count), () -> x.view(b, unit, from, count));
                break;
            }
            case 2: {
                long v = pick(2) == 0 ? random.nextLong() >> pick(64) : number();
                same("stamp(" + v + ")", () -> m.stamp(v), () -> x.stamp(v));
                break;
            }
            default: {
                int type = pick(40) == 0 ? pick(12) - 2 : pick(deep ? 2 : 4);
                same("make(" + type + ")", () -> m.make(type), () -> x.make(type));
                break;
            }
        }
    }

    private void change() {
        int kind = kind();
        int v = numberFor(kind);
        switch (pick(14)) {
            case 0:
            case 1:
            case 2:
            case 3:
            case 12:
            case 13: {
                int o = objectOf(0);
                int key = pick(20) == 0 ? number() : pick(12) - 4;
                boolean asGetter = pick(3) == 0;
                putOne(o, key, asGetter ? 8 : kind, asGetter ? getter() : v);
                break;
            }
            case 4:
            case 5:
            case 6:
                putOne(objectOf(1), pick(20) == 0 ? number() : pick(8), kind, v);
                break;
            case 7: {
                int o = pick(2) == 0 ? objectOf(0) : objectOf(1);
                int key = pick(12) - 4;
                same("take(" + o + ", " + key + ")", () -> m.take(o, key) ? 1 : 0,
                    () -> x.take(o, key) ? 1 : 0);
                break;
            }
            case 8:
            case 9: {
                int o = objectOf(2);
                int keyKind = kind();
                int key = numberFor(keyKind);
                same("entry(" + o + ", " + keyKind + ", " + key + ", " + kind + ", " + v + ")",
                    () -> deed(() -> m.entry(o, keyKind, key, kind, v)),
                    () -> deed(() -> x.entry(o, keyKind, key, kind, v)));
                break;
            }
            case 10: {
                int o = objectOf(3);
                same("add(" + o + ", " + kind + ", " + v + ")", () -> m.add(o, kind, v) ? 1 : 0,
                    () -> x.add(o, kind, v) ? 1 : 0);
                break;
            }
            default:
                rareChange();
                break;
        }
    }

    private void rareChange() {
        int o = objectOf(4);
        if (pick(2) != 0) {
            return;
        }
        if (pick(10) == 0) {
            same("clear()", () -> m.clear(), () -> x.clear());
        } else {
            same("detach(" + o + ")", () -> m.detach(o) ? 1 : 0, () -> x.detach(o) ? 1 : 0);
        }
    }

    private void putOne(int o, int key, int kind, int v) {
        same("put(" + o + ", " + key + ", " + kind + ", " + v + ")",
            () -> deed(() -> m.put(o, key, kind, v)), () -> deed(() -> x.put(o, key, kind, v)));
    }

    private void writeOne() {
        int kind = pick(8) == 0 ? kind() : 6;
        int v = kind == 6 && pick(2) == 0 ? objectOf(0) : numberFor(kind);
        long answer = same("write(" + kind + ", " + v + ")", () -> m.write(kind, v),
            () -> x.write(kind, v));
        if (answer >= 0) {
            reached[0]++;
            reached[6] = Math.max(reached[6], answer);
        } else {
            reached[answer == -1001 ? 1 : 2]++;
        }
        compareBytes(m.length() < 16 ? 1 : 16);
        if (pick(3) == 0) {
            readOne();
        }
    }

    private void readOne() {
        int holders = m.holders();
        if (pick(6) == 0 && m.objects() > 24) {
            same("clear()", () -> m.clear(), () -> x.clear());
        }
        long answer = same("read()", () -> m.read(), () -> x.read());
        reached[answer >= 0 ? 3 : 4]++;
        if (answer >= 0 && holders > 0) {
            reached[5]++;
        }
    }

    private void bytes() {
        int choice = pick(8);
        int length = m.length();
        if (choice < 4 && length > 0) {
            int k = pick(20) == 0 ? number() : pick(length);
            int v = pick(2) == 0 ? pick(16) : m.byteAt(k) + pick(3) - 1;
            same("spoil(" + k + ", " + v + ")", () -> m.spoil(k, v) ? 1 : 0,
                () -> x.spoil(k, v) ? 1 : 0);
        } else if (choice < 5) {
            long w = random.nextLong();
            int n = pick(10) == 0 ? pick(12) - 2 : 1 + pick(8);
            same("feed(" + w + ", " + n + ")", () -> m.feed(w, n), () -> x.feed(w, n));
        } else {
            same("wipe()", () -> m.wipe(), () -> x.wipe());
            feedOne(15);
            grow(pick(deep ? 13 : 6));
        }
        readOne();
    }

    private void feedOne(int b) {
        same("feed(" + b + ", 1)", () -> m.feed(b, 1), () -> x.feed(b, 1));
    }

    /** Feeds bytes that are a value, or nearly so. */
    private void grow(int depth) {
        int mark = depth <= 0 ? pick(8) : pick(16) == 0 ? pick(16) : 6 + pick(9);
        feedOne(mark);
        switch (mark) {
            case 4:
            case 14:
                growLengthy();
                break;
            case 5:
                growRow(pick(6) == 0 ? 5 : pick(5), 1);
                break;
            case 6:
            case 7:
                feedOne(pick(4));
                break;
            case 8:
                for (int i = pick(8) == 0 ? 7 : pick(4); i > 0; i--) {
                    feedOne(1);
                    feedOne(pick(20));
                    grow(depth - 1);
                }
                feedOne(0);
                break;
            case 9:
                growParts(pick(12) == 0 ? 9 : pick(4), depth, true);
                break;
            case 10: {
                int n = pick(12) == 0 ? 5 : pick(4);
                feedOne(n);
                for (int i = 0; i < 2 * n; i++) {
                    grow(depth - 1);
                }
                break;
            }
            case 11:
                growParts(pick(12) == 0 ? 6 : pick(4), depth, false);
                break;
            case 12:
                growRow(pick(12) == 0 ? 9 : pick(9), 0);
                break;
            case 13:
                feedOne(pick(8) == 0 ? 3 : 1 << pick(3));
                feedOne(4 * pick(2));
                feedOne(pick(3));
                feedOne(pick(4) == 0 ? pick(8) : 12);
                growRow(pick(9), 0);
                break;
            default:
                break;
        }
    }

    private void growParts(int n, int depth, boolean holes) {
        feedOne(n);
        for (int i = 0; i < n; i++) {
            boolean filled = !holes || pick(3) != 0;
            if (holes) {
                feedOne(filled ? 1 : 0);
            }
            if (filled) {
                grow(depth - 1);
            }
        }
    }

    private void growRow(int n, int least) {
        feedOne(n);
        for (int i = 0; i < n; i++) {
            feedOne(pick(30) == 0 ? 0 : least + pick(256 - least));
        }
    }

    private void growLengthy() {
        int n = pick(3) == 0 ? pick(12) : pick(5);
        for (int i = 0; i < n; i++) {
            feedOne(128 + pick(128));
        }
        feedOne(pick(3) == 0 ? pick(3) : pick(128));
    }

    private void compareSome() {
        int o = object();
        int k = pick(10) - 1;
        int what = pick(6) - 1;
        same("get(" + o + ", " + k + ", " + what + ")", () -> m.get(o, k, what),
            () -> x.get(o, k, what));
        int far = number();
        same("byteAt(" + far + ")", () -> m.byteAt(far), () -> x.byteAt(far));
        same("type(" + far + ")", () -> m.type(far), () -> x.type(far));
        same("size(" + far + ")", () -> m.size(far), () -> x.size(far));
    }

    private void compareCounts() {
        switch (pick(3)) {
            case 0:
                same("found()", () -> m.found(), () -> x.found());
                break;
            case 1:
                same("holders()", () -> m.holders(), () -> x.holders());
                break;
            default:
                same("objects()", () -> m.objects(), () -> x.objects());
                break;
        }
    }

    /** Every so many bytes, the one behind the last always. */
    private void compareBytes(int step) {
        for (int k = m.length(); k >= 0; k -= 1 + pick(step)) {
            int at = k;
            same("byteAt(" + k + ")", () -> m.byteAt(at), () -> x.byteAt(at));
        }
    }

    /** As much as there are calls left for; the objects made last are looked at first. */
    private void compareAll() {
        same("found()", () -> m.found(), () -> x.found());
        same("holders()", () -> m.holders(), () -> x.holders());
        same("objects()", () -> m.objects(), () -> x.objects());
        boolean bytesFirst = pick(2) == 0;
        if (bytesFirst) {
            compareBytes(1);
        }
        for (int o = m.objects(); o >= -1; o--) {
            compareObject(o);
        }
        if (!bytesFirst) {
            compareBytes(1);
        }
    }

    private void compareObject(int o) {
        same("type(" + o + ")", () -> m.type(o), () -> x.type(o));
        same("size(" + o + ")", () -> m.size(o), () -> x.size(o));
        for (int k = 0; k <= Math.max(0, m.size(o)); k++) {
            for (int what = 0; what < 4; what++) {
                int at = k;
                int which = what;
                same("get(" + o + ", " + k + ", " + what + ")",
                    () -> m.get(o, at, which), () -> x.get(o, at, which));
            }
        }
    }

    private interface Call {
        long answer();
    }

    private static long deed(Runnable deed) {
        deed.run();
        return 0;
    }

    private static Object answerOf(Call call) {
        try {
            return call.answer();
        } catch (RuntimeException e) {
            return e.getClass();
        }
    }

    private void compare(String what, Object want, Object answer) {
        Check.yes("counted", true);
        if (!want.equals(answer)) {
            Check.report("run " + run + ": " + what + " answered " + answer + ", due is " + want);
        }
    }

    /** The answer that is due; -1001 for an IllegalArgumentException, -1002 for another one. */
    private long same(String what, Call due, Call got) {
        Object want = answerOf(due);
        calls++;
        if (calls <= MOST_CALLS) {
            compare(what, want, answerOf(got));
        }
        if (want instanceof Long) {
            return (Long) want;
        }
        return want == IllegalArgumentException.class ? -1001 : -1002;
    }
}

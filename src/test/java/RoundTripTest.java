import java.util.Arrays;
import java.util.Random;

/**
 * "The bytes are read as they are written", and are wrong "when they are not just as they could be
 * written": what is read from bytes is written as these bytes again. The model tells which are wrong.
 */
public final class RoundTripTest {
    /** Every mark, and where lengths, ints, and bytes of lengthy numbers end. */
    private static final int[] ALPHABET = {
        0, 1, 2, 3, 4, 5, 6, 7, 8, 9, 10, 11, 12, 13, 14, 15, 127, 128, 255,
    };
    private static final int LONGEST = 5;
    private static final int ROWS_OF_AN_OBJECT = 150;
    private static final int GRAPHS = 10000;
    /** So that looking at all bytes twice stays within an object's 512 calls. */
    private static final int MOST_BYTES_LOOKED_AT = 110;

    private final int holders;
    private final Model model = new Model();
    private CopiedGraphs x;
    private int rows;
    private int read;

    private RoundTripTest(int holders) {
        this.holders = holders;
    }

    public static void main(String[] args) {
        for (int holders = 0; holders <= 2; holders++) {
            RoundTripTest test = new RoundTripTest(holders);
            test.begin();
            int[] none = {15};
            test.rowsFrom(none, holders == 0 ? LONGEST : LONGEST - 1);
            Check.yes(test.read + " rows are read", test.read > 1000);
        }
        keysInOrder();
        int graphs = 0;
        for (int seed = 0; seed < GRAPHS; seed++) {
            graphs += graph(new Random(seed)) ? 1 : 0;
        }
        Check.yes(graphs + " graphs are made anew", graphs > GRAPHS / 2);
        Check.end();
    }

    /** Nothing is promised after an object's 512th call, and what was read must not stay. */
    private void begin() {
        x = new CopiedGraphs();
        rows = 0;
        model.clear();
        for (int i = 0; i < holders; i++) {
            x.buffer(i + 5, i + 1);
            x.pass(i);
            model.buffer(i + 5, i + 1);
            model.pass(i);
        }
        x.write(1, 0);
        model.write(1, 0);
    }

    private void rowsFrom(int[] row, int more) {
        look(row);
        if (more == 0) {
            return;
        }
        int[] longer = Arrays.copyOf(row, row.length + 1);
        for (int b : ALPHABET) {
            longer[row.length] = b;
            rowsFrom(longer, more - 1);
        }
    }

    private void look(int[] row) {
        Check.fill(x, row);
        int kind = readOrNone(x);
        if (kind != modelKind(row)) {
            Check.report(text(row) + " is read as " + kind + ", due is another kind");
        }
        if (kind != CopiedGraphs.NONE) {
            read++;
            writesAgain(x, kind, holders, row);
            begin();
        } else if (++rows == ROWS_OF_AN_OBJECT) {
            begin();
        }
    }

    private int modelKind(int[] row) {
        model.wipe();
        for (int b : row) {
            model.feed(b, 1);
        }
        try {
            return model.read();
        } catch (IllegalArgumentException e) {
            return CopiedGraphs.NONE;
        }
    }

    private static int readOrNone(CopiedGraphs x) {
        try {
            return x.read();
        } catch (IllegalArgumentException e) {
            return CopiedGraphs.NONE;
        }
    }

    /** The buffers that were handed over stand behind the detached ones that they came from. */
    private static void writesAgain(CopiedGraphs x, int kind, int firstHanded, int[] row) {
        for (int i = 0; i < firstHanded; i++) {
            x.pass(firstHanded + i);
        }
        x.write(kind, x.found());
        Check.same(text(row) + " written again", State.bytes(x), text(row));
    }

    private static String text(int[] row) {
        CopiedGraphs x = new CopiedGraphs();
        Check.fill(x, row);
        return State.bytes(x);
    }

    /** The one thing that may differ: keys come in any order, but are written in theirs. */
    private static void keysInOrder() {
        CopiedGraphs x = new CopiedGraphs();
        Check.reads("keys -2, 1, -1, 0", x, 6, 0, 15, 8, 1, 3, 0, 1, 2, 1, 1, 1, 2, 1, 0, 3, 0);
        Check.written("in their order", x, 6, 0, 15, 8, 1, 0, 3, 1, 2, 1, 1, 3, 0, 1, 1, 2, 0);
    }

    /** A graph by chance is written and made anew: the new one is written as the same bytes. */
    private static boolean graph(Random random) {
        CopiedGraphs x = new CopiedGraphs();
        int count = 3 + random.nextInt(9);
        for (int o = 0; o < count; o++) {
            makeOne(x, random, o);
        }
        for (int i = 0; i < 3 * count; i++) {
            fillOne(x, random, random.nextInt(count));
        }
        int passed = 0;
        for (int o = 0; o < count && passed < 3; o++) {
            if (x.type(o) == 4 && random.nextInt(3) == 0) {
                passed = x.pass(o);
            }
        }
        int length = writeOrNone(x, firstWithParts(x, count));
        if (length == CopiedGraphs.NONE || length > MOST_BYTES_LOOKED_AT) {
            return false;
        }
        String bytes = State.bytes(x);
        int kind = x.read();
        Check.due("holders that are gone", x.holders(), 0);
        for (int i = 0; i < passed; i++) {
            x.pass(count + i);
        }
        x.write(kind, x.found());
        Check.same("the new graph's bytes", State.bytes(x), bytes);
        Check.due("its holders", x.holders(), passed);
        return true;
    }

    private static int firstWithParts(CopiedGraphs x, int count) {
        int o = 0;
        while (o < count - 1 && (x.type(o) > 3 || x.size(o) == 0)) {
            o++;
        }
        return o;
    }

    private static int writeOrNone(CopiedGraphs x, int o) {
        try {
            return x.write(6, o);
        } catch (RuntimeException e) {
            return CopiedGraphs.NONE;
        }
    }

    private static void makeOne(CopiedGraphs x, Random random, int o) {
        int type = random.nextInt(7);
        if (type == 5 && o > 0 && x.type(o - 1) == 4 && x.size(o - 1) > 3) {
            x.view(o - 1, 1 << random.nextInt(3), 0, random.nextInt(2));
        } else if (type == 6) {
            x.stamp(random.nextLong() >> random.nextInt(64));
        } else if (type > 3) {
            x.buffer(random.nextLong(), random.nextInt(9));
        } else {
            x.make(type);
        }
    }

    private static void fillOne(CopiedGraphs x, Random random, int o) {
        int kind = random.nextInt(3) == 0 ? random.nextInt(6) : 6;
        int v = kind == 6 ? random.nextInt(x.objects()) : kind == 5 ? 0xFF61 : random.nextInt();
        int type = x.type(o);
        if (type == 0 && x.size(o) < 6) {
            boolean getter = random.nextInt(6) == 0;
            x.put(o, random.nextInt(9) - 4, getter ? 8 : kind, getter ? 8 * o + random.nextInt(5) : v);
        } else if (type == 1) {
            x.put(o, random.nextInt(8), kind, v);
        } else if (type == 2 && x.size(o) < 4) {
            x.entry(o, kind, v, 6, random.nextInt(x.objects()));
        } else if (type == 3 && x.size(o) < 5) {
            x.add(o, kind, v);
        }
    }
}

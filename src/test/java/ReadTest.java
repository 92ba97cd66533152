/** Promises 19 and 20: making anew, wrong bytes, and what was found. */
public final class ReadTest {
    private static final int NONE = CopiedGraphs.NONE;
    private static final int MIN = Integer.MIN_VALUE;
    private static final int MAX = Integer.MAX_VALUE;

    public static void main(String[] args) {
        plainValues();
        wrongPlainValues();
        stamps();
        records();
        wrongRecords();
        lists();
        mapsAndSets();
        wrongMapsAndSets();
        buffersAndViews();
        wrongViews();
        places();
        handed();
        depth();
        tooDeep();
        room();
        longest();
        ringsAnew();
        Check.end();
    }

    private static void plainValues() {
        CopiedGraphs x = new CopiedGraphs();
        Check.reads("19: 5", x, 4, 5, 15, 4, 10);
        for (int kind = 0; kind < 4; kind++) {
            Check.reads("19: kind " + kind, x, kind, 0, 15, kind);
        }
        Check.reads("19: -3", x, 4, -3, 15, 4, 5);
        Check.reads("19: 64", x, 4, 64, 15, 4, 128, 1);
        Check.reads("19: MAX", x, 4, MAX, 15, 4, 254, 255, 255, 255, 15);
        Check.reads("19: MIN", x, 4, MIN, 15, 4, 255, 255, 255, 255, 15);
        Check.reads("19: no text", x, 5, 0, 15, 5, 0);
        Check.reads("19: text", x, 5, 0x8001FF, 15, 5, 3, 255, 1, 128);
        Check.reads("19: text", x, 5, 0xFFFFFF61, 15, 5, 4, 0x61, 255, 255, 255);
        Check.due("19: no objects", x.objects(), 0);
        Check.bytes("19: the bytes stay", x, 15, 5, 4, 0x61, 255, 255, 255);
    }

    private static void wrongPlainValues() {
        int[][] wrong = {{}, {15}, {14}, {0}, {1}, {14, 1}, {16, 1}, {15, 15}, {15, 15, 0}, {15, 16},
            {15, 255}, {15, 128}, {15, 1, 1}, {15, 0, 0}, {15, 4}, {15, 4, 128}, {15, 4, 1, 0},
            {15, 4, 128, 0}, {15, 4, 255, 0}, {15, 4, 128, 128, 0}, {15, 4, 255, 255, 255, 255, 16},
            {15, 4, 128, 128, 128, 128, 16}, {15, 4, 255, 255, 255, 255, 31},
            {15, 4, 255, 255, 255, 255, 127}, {15, 4, 255, 255, 255, 255, 143, 0},
            {15, 4, 128, 128, 128, 128, 128, 1},
            {15, 4, 255, 255, 255, 255, 255, 255, 255, 255, 255, 1},
            {15, 5}, {15, 5, 1}, {15, 5, 5, 1, 1, 1, 1, 1}, {15, 5, 1, 0}, {15, 5, 2, 0, 97},
            {15, 5, 2, 97, 0}, {15, 5, 4, 97, 97, 97}, {15, 5, 0, 0}, {15, 5, 128, 0},
            {15, 5, 255}, {15, 6, 0}, {15, 7, 0}, {15, 6}, {15, 7}};
        for (int[] bytes : wrong) {
            CopiedGraphs x = new CopiedGraphs();
            Check.reads("20: found before", x, 4, 21, 15, 4, 42);
            Check.wrongBytes("19: wrong " + java.util.Arrays.toString(bytes), x, bytes);
            Check.due("20: found stays", x.found(), 21);
        }
    }

    private static void stamps() {
        CopiedGraphs x = new CopiedGraphs();
        Check.reads("19: stamp", x, 6, 0, 15, 14, 5);
        Check.due("19: its long", x.get(0, 0, 0), -3);
        Check.reads("19: MAX", x, 6, 1, 15, 14, 254, 255, 255, 255, 255, 255, 255, 255, 255, 1);
        Check.due("19: its long", x.get(1, 0, 0), Long.MAX_VALUE);
        Check.reads("19: MIN", x, 6, 2, 15, 14, 255, 255, 255, 255, 255, 255, 255, 255, 255, 1);
        Check.due("19: its long", x.get(2, 0, 0), Long.MIN_VALUE);
        Check.reads("19: nine bytes", x, 6, 3, 15, 14, 128, 128, 128, 128, 128, 128, 128, 128, 64);
        Check.due("19: its long", x.get(3, 0, 0), 1L << 61);
        int[][] wrong = {{15, 14}, {15, 14, 128, 0},
            {15, 14, 255, 255, 255, 255, 255, 255, 255, 255, 255, 2},
            {15, 14, 255, 255, 255, 255, 255, 255, 255, 255, 255, 3},
            {15, 14, 255, 255, 255, 255, 255, 255, 255, 255, 255, 0},
            {15, 14, 255, 255, 255, 255, 255, 255, 255, 255, 255, 129},
            {15, 14, 255, 255, 255, 255, 255, 255, 255, 255, 255, 129, 0},
            {15, 14, 255, 255, 255, 255, 255, 255, 255, 255, 255, 129, 1},
            {15, 14, 255, 255, 255, 255, 255, 255, 255, 255, 255},
            {15, 14, 255, 255, 255, 255, 255, 255, 255, 255, 255, 127}};
        for (int[] bytes : wrong) {
            Check.wrongBytes("19: wrong " + java.util.Arrays.toString(bytes), x, bytes);
        }
    }

    private static void records() {
        CopiedGraphs x = new CopiedGraphs();
        Check.reads("19: keys in any order", x, 6, 0,
            15, 8, 1, 1, 1, 1, 18, 2, 1, 9, 3, 1, 0, 0, 1, 4, 4, 6, 1, 3, 5, 1, 65, 0);
        Check.due("19: size", x.size(0), 6);
        Check.part("19: property", x, 0, 0, 0, 0, 0);
        Check.part("19: property", x, 0, 1, 2, 4, 3);
        Check.part("19: property", x, 0, 2, 9, 2, 0);
        Check.part("19: property", x, 0, 3, -1, 1, 0);
        Check.part("19: property", x, 0, 4, -5, 3, 0);
        Check.part("19: property", x, 0, 5, -2, 5, 65);
        Check.reads("19: an empty one", x, 6, 1, 15, 8, 0);
        Check.due("19: size", x.size(1), 0);
    }

    private static void wrongRecords() {
        CopiedGraphs x = new CopiedGraphs();
        int[][] wrong = {{15, 8}, {15, 8, 2}, {15, 8, 1}, {15, 8, 1, 0}, {15, 8, 1, 0, 1},
            {15, 8, 0, 0}, {15, 8, 1, 0, 1, 2}, {15, 8, 1, 0, 1, 1, 0, 1, 0},
            {15, 8, 1, 1, 1, 1, 2, 1, 1, 1, 2, 0}, {15, 8, 1, 128, 0, 1, 0},
            {15, 8, 1, 255, 255, 255, 255, 16, 1, 0}, {15, 8, 1, 0, 15, 0}, {15, 8, 255},
            {15, 9, 2, 1, 8, 1, 0, 1, 1, 0, 1, 0},
            {15, 8, 1, 0, 1, 1, 2, 1, 1, 4, 1, 1, 6, 1, 1, 8, 1, 1, 10, 1, 1, 12, 1, 0}};
        for (int[] bytes : wrong) {
            Check.wrongBytes("19: wrong " + java.util.Arrays.toString(bytes), x, bytes);
        }
    }

    private static void lists() {
        CopiedGraphs x = new CopiedGraphs();
        Check.reads("19: list", x, 6, 0, 15, 9, 4, 0, 1, 4, 3, 1, 6, 0, 0);
        Check.due("19: length", x.size(0), 4);
        Check.part("19: hole", x, 0, 0, 0, NONE, 0);
        Check.part("19: place", x, 0, 1, 1, 4, -2);
        Check.part("19: itself", x, 0, 2, 2, 6, 0);
        Check.part("19: a last hole", x, 0, 3, 3, NONE, 0);
        Check.reads("19: holes alone", x, 6, 1, 15, 9, 8, 0, 0, 0, 0, 0, 0, 0, 0);
        Check.due("19: length", x.size(1), 8);
        int[][] wrong = {{15, 9}, {15, 9, 9, 0, 0, 0, 0, 0, 0, 0, 0, 0}, {15, 9, 1}, {15, 9, 1, 2},
            {15, 9, 1, 1}, {15, 9, 0, 0}, {15, 9, 2, 0}, {15, 9, 1, 0, 0}, {15, 9, 128, 0},
            {15, 9, 1, 2, 1}, {15, 9, 1, 1, 6, 1}, {15, 9, 1, 1, 6, 255, 255, 255, 255, 15}};
        for (int[] bytes : wrong) {
            Check.wrongBytes("19: wrong " + java.util.Arrays.toString(bytes), x, bytes);
        }
    }

    private static void mapsAndSets() {
        CopiedGraphs x = new CopiedGraphs();
        Check.reads("19: map", x, 6, 0,
            15, 10, 4, 4, 2, 1, 5, 1, 2, 4, 2, 8, 0, 6, 1, 8, 0, 6, 0);
        Check.due("19: size", x.size(0), 4);
        Check.due("19: objects", x.objects(), 3);
        int[][] want = {{4, 1, 1, 0}, {5, 2, 4, 1}, {6, 1, 6, 1}, {6, 2, 6, 0}};
        for (int k = 0; k < 4; k++) {
            Check.part("19: entry", x, 0, k, want[k][1], want[k][2], want[k][3]);
            Check.due("19: kind of key", x.get(0, k, 3), want[k][0]);
        }
        Check.reads("19: set", x, 6, 3, 15, 11, 5, 0, 1, 9, 0, 9, 0, 6, 0);
        int[][] members = {{0, 0}, {1, 0}, {6, 4}, {6, 5}, {6, 3}};
        for (int k = 0; k < 5; k++) {
            Check.part("19: member", x, 3, k, k, members[k][0], members[k][1]);
        }
    }

    private static void wrongMapsAndSets() {
        CopiedGraphs x = new CopiedGraphs();
        x.make(0);
        int[][] wrong = {{15, 10}, {15, 10, 5, 0, 0, 1, 0, 2, 0, 3, 0, 5, 0, 0}, {15, 10, 1},
            {15, 10, 1, 1}, {15, 10, 2, 1, 1, 1, 2}, {15, 10, 2, 4, 6, 1, 4, 6, 1},
            {15, 10, 2, 6, 0, 1, 6, 0, 1}, {15, 10, 0, 0}, {15, 10, 2, 8, 0, 1, 6, 1, 1},
            {15, 10, 255}, {15, 10, 2, 5, 1, 7, 0, 5, 1, 7, 0},
            {15, 11}, {15, 11, 6, 0, 1, 2, 3, 4, 0, 4, 2}, {15, 11, 1}, {15, 11, 2, 1, 1},
            {15, 11, 2, 6, 0, 6, 0}, {15, 11, 2, 9, 0, 6, 1}, {15, 11, 0, 0}, {15, 11, 1, 1, 1},
            {15, 11, 3, 4, 2, 5, 0, 4, 2}, {15, 11, 200}};
        for (int[] bytes : wrong) {
            Check.wrongBytes("19: wrong " + java.util.Arrays.toString(bytes), x, bytes);
        }
    }

    private static void buffersAndViews() {
        CopiedGraphs x = new CopiedGraphs();
        Check.reads("19: buffer", x, 6, 0, 15, 12, 8, 1, 2, 3, 4, 5, 6, 0, 255);
        Check.due("19: size", x.size(0), 8);
        Check.part("19: byte", x, 0, 6, 6, 4, 0);
        Check.part("19: byte", x, 0, 7, 7, 4, 255);
        Check.reads("19: no bytes", x, 6, 1, 15, 12, 0);
        Check.due("19: size", x.size(1), 0);
        Check.reads("19: a view is behind its buffer", x, 6, 3, 15, 13, 2, 2, 1, 12, 4, 9, 8, 7, 6);
        long[] view = {2, 2, 2, 1};
        for (int what = 0; what < 4; what++) {
            Check.due("19: view", x.get(3, 0, what), view[what]);
        }
        Check.due("19: type", x.type(2), 4);
        Check.reads("19: two views", x, 6, 4,
            15, 9, 4, 1, 12, 2, 5, 5, 1, 13, 1, 2, 0, 6, 1, 1, 13, 2, 0, 1, 6, 1, 1, 6, 3);
        Check.part("19: its own buffer", x, 4, 0, 0, 6, 5);
        Check.part("19: the first view", x, 4, 1, 1, 6, 6);
        Check.part("19: the second view", x, 4, 2, 2, 6, 7);
        Check.part("19: the second view again", x, 4, 3, 3, 6, 7);
        Check.due("19: its buffer", x.get(7, 0, 0), 5);
        Check.yes("19: it can be detached", x.detach(5));
    }

    private static void wrongViews() {
        int[][] wrong = {{15, 12}, {15, 12, 1}, {15, 12, 9, 1, 2, 3, 4, 5, 6, 7, 8, 9},
            {15, 12, 0, 0}, {15, 12, 2, 1}, {15, 12, 128, 0}, {15, 12, 255},
            {15, 13}, {15, 13, 1}, {15, 13, 1, 0}, {15, 13, 1, 0, 0}, {15, 13, 1, 0, 0, 12},
            {15, 13, 0, 0, 0, 12, 0}, {15, 13, 3, 0, 0, 12, 0}, {15, 13, 8, 0, 0, 12, 0},
            {15, 13, 255, 0, 0, 12, 0}, {15, 13, 2, 1, 0, 12, 2, 0, 0}, {15, 13, 4, 2, 0, 12, 2, 0, 0},
            {15, 13, 1, 0, 1, 12, 0}, {15, 13, 1, 1, 0, 12, 0}, {15, 13, 2, 0, 2, 12, 3, 0, 0, 0},
            {15, 13, 4, 4, 1, 12, 7, 0, 0, 0, 0, 0, 0, 0}, {15, 13, 1, 0, 255, 12, 1, 0},
            {15, 13, 1, 0, 0, 1}, {15, 13, 1, 0, 0, 4, 0}, {15, 13, 1, 0, 0, 9, 0},
            {15, 13, 1, 0, 0, 6, 0}, {15, 13, 1, 0, 0, 7, 0}, {15, 9, 1, 1, 13, 1, 0, 0, 6, 0},
            {15, 13, 1, 0, 0, 13, 1, 0, 0, 12, 0}, {15, 13, 1, 0, 0, 14, 0}, {15, 13, 1, 0, 0, 5, 0},
            {15, 9, 2, 1, 13, 1, 0, 0, 12, 0, 1, 13, 1, 0, 0, 6, 2}};
        for (int[] bytes : wrong) {
            CopiedGraphs x = new CopiedGraphs();
            x.buffer(0, 8);
            Check.wrongBytes("19: wrong " + java.util.Arrays.toString(bytes), x, bytes);
        }
        CopiedGraphs x = new CopiedGraphs();
        x.buffer(0, 8);
        Check.reads("19: a view of its buffer's place", x, 6, 1,
            15, 9, 2, 1, 13, 1, 0, 0, 12, 0, 1, 13, 1, 0, 0, 6, 1);
    }

    private static void places() {
        CopiedGraphs x = new CopiedGraphs();
        x.make(3);
        x.make(3);
        Check.reads("19: the row begins behind what there was", x, 6, 2,
            15, 9, 3, 1, 8, 0, 1, 6, 1, 1, 6, 0);
        Check.part("19: place", x, 2, 0, 0, 6, 3);
        Check.part("19: place", x, 2, 1, 1, 6, 3);
        Check.part("19: place", x, 2, 2, 2, 6, 2);
        int[][] wrong = {{15, 9, 1, 1, 6, 1}, {15, 9, 2, 1, 6, 1, 1, 8, 0}, {15, 9, 1, 1, 6, 128, 0},
            {15, 9, 1, 1, 6, 128, 128, 128, 128, 16}, {15, 9, 1, 1, 6},
            {15, 9, 1, 1, 6, 128, 128, 128, 128, 128, 128, 128, 128, 128, 1},
            {15, 9, 1, 1, 6, 255, 255, 255, 255, 255, 255, 255, 255, 255, 1}};
        for (int[] bytes : wrong) {
            Check.wrongBytes("19: wrong " + java.util.Arrays.toString(bytes), x, bytes);
        }
    }

    private static void handed() {
        CopiedGraphs x = new CopiedGraphs();
        x.buffer(0x0605, 2);
        x.buffer(7, 1);
        x.pass(1);
        x.pass(0);
        x.write(1, 0);
        int[][] wrong = {{15, 7, 2}, {15, 7, 128, 0}, {15, 7, 129, 0}, {15, 6, 0}, {15, 7},
            {15, 11, 2, 7, 0, 7, 0}, {15, 13, 2, 0, 1, 7, 0}, {15, 1, 1},
            {15, 7, 255, 255, 255, 255, 255, 255, 255, 255, 255, 1}};
        for (int[] bytes : wrong) {
            Check.wrongBytes("19: wrong " + java.util.Arrays.toString(bytes), x, bytes);
        }
        Check.due("17: holders stay", x.holders(), 2);
        Check.reads("19: as often as it stands there", x, 6, 4,
            15, 9, 4, 1, 7, 1, 1, 13, 2, 0, 1, 7, 1, 1, 7, 1, 1, 6, 1);
        Check.due("17: holders are gone", x.holders(), 0);
        Check.due("19: objects", x.objects(), 6);
        Check.due("19: the first holder's bytes", x.get(2, 0, 2), 7);
        Check.due("19: the second holder's bytes", x.get(3, 1, 2), 6);
        Check.part("19: handed", x, 4, 0, 0, 6, 3);
        Check.part("19: view", x, 4, 1, 1, 6, 5);
        Check.part("19: handed again", x, 4, 2, 2, 6, 3);
        Check.part("19: the view's place in the row", x, 4, 3, 3, 6, 5);
        Check.due("19: the view's buffer", x.get(5, 0, 0), 3);
        Check.wrongBytes("19: no holder", x, 15, 7, 0);
        x.pass(3);
        x.write(1, 0);
        Check.reads("19: never", x, 1, 0, 15, 1);
        Check.due("19: the buffer is made", x.objects(), 7);
        Check.due("19: it has its bytes", x.size(6), 2);
        Check.due("19: it is not detached", x.get(6, 0, 2), 5);
    }

    /** Bytes of lists in lists, and behind them what the last one's place has. */
    private static int[] nest(int lists, int... inside) {
        int[] bytes = new int[1 + 3 * lists + inside.length];
        bytes[0] = 15;
        for (int i = 0; i < lists; i++) {
            bytes[1 + 3 * i] = 9;
            bytes[2 + 3 * i] = 1;
            bytes[3 + 3 * i] = 1;
        }
        System.arraycopy(inside, 0, bytes, 1 + 3 * lists, inside.length);
        return bytes;
    }

    private static void depth() {
        CopiedGraphs x = new CopiedGraphs();
        Check.reads("19: a value at depth 12", x, 6, 0, nest(11, 1));
        x.clear();
        Check.reads("19: an empty list at depth 12", x, 6, 0, nest(11, 9, 0));
        x.clear();
        Check.reads("19: a place at depth 12", x, 6, 0, nest(11, 6, 0));
        x.clear();
        Check.reads("19: a view's buffer at depth 12", x, 6, 0, nest(10, 13, 1, 0, 0, 12, 0));
    }

    private static void tooDeep() {
        CopiedGraphs x = new CopiedGraphs();
        Check.wrongBytes("19: a value at depth 13", x, nest(12, 1));
        Check.wrongBytes("19: a list at depth 13", x, nest(12, 9, 0));
        Check.wrongBytes("19: a place at depth 13", x, nest(12, 6, 0));
        Check.wrongBytes("19: a view's buffer at depth 13", x, nest(11, 13, 1, 0, 0, 12, 0));
        Check.wrongBytes("19: a property at depth 13", x, nest(11, 8, 1, 0, 1, 0));
        Check.wrongBytes("19: an entry at depth 13", x, nest(11, 10, 1, 1, 1));
        Check.wrongBytes("19: a member at depth 13", x, nest(11, 11, 1, 1));
        Check.wrongBytes("19: in a key at depth 13", x, nest(10, 10, 1, 9, 1, 1, 1, 1));
        Check.wrongBytes("19: in an entry at depth 13", x, nest(10, 10, 1, 1, 9, 1, 1, 1));
        Check.wrongBytes("19: very deep", new CopiedGraphs(), nest(90, 1));
    }

    private static void room() {
        CopiedGraphs x = new CopiedGraphs();
        for (int i = 0; i < 30; i++) {
            x.make(1);
        }
        Check.wrongBytes("19: 33 objects", x, 15, 9, 2, 1, 8, 0, 1, 8, 0);
        Check.wrongBytes("19: 33 with a view", x, 15, 9, 1, 1, 13, 1, 0, 0, 12, 0);
        Check.reads("19: 32 objects", x, 6, 30, 15, 9, 1, 1, 8, 0);
        Check.due("19: objects", x.objects(), 32);
        Check.wrongBytes("19: one more", x, 15, 8, 0);
        Check.reads("19: a value needs no room", x, 4, 1, 15, 4, 2);
        CopiedGraphs y = new CopiedGraphs();
        y.buffer(1, 1);
        y.buffer(2, 1);
        y.pass(0);
        y.pass(1);
        y.write(1, 0);
        for (int i = 2; i < 31; i++) {
            y.make(0);
        }
        Check.wrongBytes("19: no room for the holders' buffers", y, 15, 1);
        Check.due("17: holders", y.holders(), 2);
        y.make(0);
        Check.wrongBytes("19: no room at all", y, 15, 7, 0);
    }

    /** The longest bytes that there can be, and yet one is wanting. */
    private static void longest() {
        CopiedGraphs x = new CopiedGraphs();
        x.feed(0x08090FL, 3);
        for (int i = 0; i < 5; i++) {
            x.feed(0x080901L, 3);
            for (int k = 0; k < 8; k++) {
                x.feed(0x01010101040501L, 7);
            }
        }
        Check.due("21: 300 bytes", x.feed(0x0501, 2), 300);
        Check.badArgument("19: a byte is wanting", () -> x.read());
        Check.due("19: no objects", x.objects(), 0);
        x.spoil(299, 1);
        Check.badArgument("19: places are wanting", () -> x.read());
        x.spoil(2, 6);
        Check.due("19: 300 bytes are read", x.read(), 6);
        Check.due("19: objects", x.objects(), 6);
        Check.part("19: the last place", x, 0, 5, 5, 1, 0);
    }

    private static void ringsAnew() {
        CopiedGraphs x = new CopiedGraphs();
        x.make(0);
        x.make(2);
        x.make(3);
        x.put(0, 3, 6, 1);
        x.put(0, -3, 8, 8 * 4);
        x.entry(1, 6, 2, 6, 0);
        x.add(2, 6, 0);
        x.add(2, 6, 1);
        int n = x.write(6, 0);
        Check.due("19: read", x.read(), 6);
        Check.due("20: found", x.found(), 3);
        Check.part("19: record", x, 3, 0, 3, 6, 4);
        Check.part("19: an answer, no getter", x, 3, 1, -3, 4, 4);
        Check.part("19: map", x, 4, 0, 5, 6, 3);
        Check.due("19: its key's kind", x.get(4, 0, 3), 6);
        Check.part("19: set", x, 5, 0, 0, 6, 3);
        Check.part("19: set", x, 5, 1, 1, 6, 4);
        Check.part("19: what there was stays", x, 0, 1, -3, 8, 32);
        Check.due("18: what was made anew is written the same", x.write(6, 3), n);
        Check.due("19: read again", x.read(), 6);
        Check.due("20: found behind it", x.found(), 6);
        x.clear();
        Check.due("20: found stays", x.found(), 6);
    }
}

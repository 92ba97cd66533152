/** Promises 16 to 18: passing, holders and writing. */
public final class WriteTest {
    private static final int NONE = CopiedGraphs.NONE;
    private static final int MIN = Integer.MIN_VALUE;
    private static final int MAX = Integer.MAX_VALUE;

    public static void main(String[] args) {
        plainValues();
        noValues();
        emptyObjects();
        lists();
        mapsAndSets();
        buffersAndViews();
        stamps();
        sharingAndRings();
        highPlaces();
        recordOrder();
        gettersThatDoNothing();
        gettersThatTakeAndGive();
        gettersThatDetach();
        gettersThatThrow();
        impossibleAtOnce();
        depth();
        viewDepth();
        lengthLimit();
        getterAtTheLimit();
        pass();
        handOver();
        handOverRefused();
        handOverDetachedOnTheWay();
        holdersReplaced();
        refusalLeavesAll();
        Check.end();
    }

    private static void plainValues() {
        CopiedGraphs x = new CopiedGraphs();
        for (int kind = 0; kind < 4; kind++) {
            Check.written("18: kind " + kind, x, kind, 77, 15, kind);
        }
        Check.written("18: 0", x, 4, 0, 15, 4, 0);
        Check.written("18: -1", x, 4, -1, 15, 4, 1);
        Check.written("18: 63", x, 4, 63, 15, 4, 126);
        Check.written("18: -64", x, 4, -64, 15, 4, 127);
        Check.written("18: 64", x, 4, 64, 15, 4, 128, 1);
        Check.written("18: 8191", x, 4, 8191, 15, 4, 254, 127);
        Check.written("18: 8192", x, 4, 8192, 15, 4, 128, 128, 1);
        Check.written("18: MAX", x, 4, MAX, 15, 4, 254, 255, 255, 255, 15);
        Check.written("18: MIN", x, 4, MIN, 15, 4, 255, 255, 255, 255, 15);
        Check.written("18: no text", x, 5, 0, 15, 5, 0);
        Check.written("18: text", x, 5, 0x6261, 15, 5, 2, 0x61, 0x62);
        Check.written("18: text", x, 5, 0x80FFFE01, 15, 5, 4, 1, 254, 255, 128);
    }

    private static void noValues() {
        CopiedGraphs x = new CopiedGraphs();
        x.write(4, 5);
        int[][] bad = {{-1, 0}, {8, 0}, {9, 0}, {MIN, 0}, {MAX, 0}, {6, 0}, {6, -1}, {5, 256},
            {5, 0x1000061}, {7, 0}};
        for (int[] v : bad) {
            Check.badArgument("18: write(" + v[0] + ", " + v[1] + ")", () -> x.write(v[0], v[1]));
            Check.bytes("18: the bytes stay", x, 15, 4, 10);
        }
    }

    private static void emptyObjects() {
        CopiedGraphs x = new CopiedGraphs();
        x.make(0);
        x.make(1);
        x.make(2);
        x.make(3);
        x.buffer(5, 0);
        Check.written("18: record", x, 6, 0, 15, 8, 0);
        Check.written("18: list", x, 6, 1, 15, 9, 0);
        Check.written("18: map", x, 6, 2, 15, 10, 0);
        Check.written("18: set", x, 6, 3, 15, 11, 0);
        Check.written("18: buffer", x, 6, 4, 15, 12, 0);
    }

    private static void lists() {
        CopiedGraphs x = new CopiedGraphs();
        x.make(1);
        x.put(0, 1, 4, -2);
        x.put(0, 3, 0, 0);
        x.put(0, 4, 5, 0x41);
        x.take(0, 3);
        Check.written("18: holes", x, 6, 0, 15, 9, 5, 0, 1, 4, 3, 0, 0, 1, 5, 1, 0x41);
        x.take(0, 4);
        Check.written("18: a last hole", x, 6, 0, 15, 9, 5, 0, 1, 4, 3, 0, 0, 0);
        x.put(0, 7, 1, 0);
        Check.written("18: eight places", x, 6, 0, 15, 9, 8, 0, 1, 4, 3, 0, 0, 0, 0, 0, 1, 1);
    }

    private static void mapsAndSets() {
        CopiedGraphs x = new CopiedGraphs();
        x.make(2);
        x.make(3);
        x.entry(0, 4, 1, 5, 0x42);
        x.entry(0, 6, 1, 6, 0);
        x.add(1, 2, 0);
        x.add(1, 6, 0);
        x.add(1, 4, 9);
        Check.written("18: map", x, 6, 0,
            15, 10, 2, 4, 2, 5, 1, 0x42, 11, 3, 2, 6, 0, 4, 18, 6, 0);
        Check.written("18: set", x, 6, 1,
            15, 11, 3, 2, 10, 2, 4, 2, 5, 1, 0x42, 6, 0, 6, 1, 4, 18);
    }

    private static void buffersAndViews() {
        CopiedGraphs x = new CopiedGraphs();
        x.buffer(0xFF80007FL, 4);
        x.view(0, 2, 2, 1);
        x.make(1);
        x.put(2, 0, 6, 1);
        x.put(2, 1, 6, 0);
        x.put(2, 2, 6, 1);
        Check.written("18: buffer", x, 6, 0, 15, 12, 4, 127, 0, 128, 255);
        Check.written("18: view", x, 6, 1, 15, 13, 2, 2, 1, 12, 4, 127, 0, 128, 255);
        Check.written("18: a view's place is behind its buffer's", x, 6, 2,
            15, 9, 3, 1, 13, 2, 2, 1, 12, 4, 127, 0, 128, 255, 1, 6, 1, 1, 6, 2);
        x.put(2, 0, 6, 0);
        x.put(2, 1, 6, 1);
        Check.written("18: buffer in front of its view", x, 6, 2,
            15, 9, 3, 1, 12, 4, 127, 0, 128, 255, 1, 13, 2, 2, 1, 6, 1, 1, 6, 2);
        x.detach(0);
        Check.badArgument("18: a detached buffer", () -> x.write(6, 0));
        Check.badArgument("18: a view of a detached buffer", () -> x.write(6, 1));
    }

    private static void stamps() {
        CopiedGraphs x = new CopiedGraphs();
        x.stamp(0);
        x.stamp(-1);
        x.stamp(Long.MAX_VALUE);
        x.stamp(Long.MIN_VALUE);
        x.stamp(1L << 33);
        Check.written("18: stamp 0", x, 6, 0, 15, 14, 0);
        Check.written("18: stamp -1", x, 6, 1, 15, 14, 1);
        Check.written("18: stamp MAX", x, 6, 2,
            15, 14, 254, 255, 255, 255, 255, 255, 255, 255, 255, 1);
        Check.written("18: stamp MIN", x, 6, 3,
            15, 14, 255, 255, 255, 255, 255, 255, 255, 255, 255, 1);
        Check.written("18: stamp 2^33", x, 6, 4, 15, 14, 128, 128, 128, 128, 64);
    }

    private static void sharingAndRings() {
        CopiedGraphs x = new CopiedGraphs();
        x.make(1);
        x.make(0);
        x.stamp(3);
        x.put(0, 0, 6, 1);
        x.put(0, 1, 6, 2);
        x.put(0, 2, 6, 1);
        x.put(1, 4, 6, 0);
        x.put(1, 5, 6, 2);
        Check.written("18: ring", x, 6, 0,
            15, 9, 3, 1, 8, 1, 8, 6, 0, 1, 10, 14, 6, 0, 1, 6, 2, 1, 6, 1);
        x.put(1, 4, 6, 1);
        Check.written("18: itself", x, 6, 1, 15, 8, 1, 8, 6, 0, 1, 10, 14, 6, 0);
    }

    private static void highPlaces() {
        CopiedGraphs x = new CopiedGraphs();
        x.make(1);
        for (int i = 1; i <= 4; i++) {
            int list = x.make(1);
            x.put(0, i, 6, list);
            for (int k = 0; k < 6; k++) {
                x.put(list, k, 6, x.stamp(k));
            }
        }
        x.put(0, 7, 6, 28);
        x.write(6, 0);
        int n = x.wipe();
        x.write(6, 0);
        Check.due("18: mark of a high place", x.byteAt(n - 2), 6);
        Check.due("18: place 28", x.byteAt(n - 1), 28);
    }

    private static void recordOrder() {
        CopiedGraphs x = new CopiedGraphs();
        x.make(0);
        x.put(0, -1, 1, 0);
        x.put(0, 70, 2, 0);
        x.put(0, -70, 3, 0);
        x.put(0, 2, 0, 0);
        Check.written("18: order of keys", x, 6, 0,
            15, 8, 1, 4, 0, 1, 140, 1, 2, 1, 1, 1, 1, 139, 1, 3, 0);
    }

    private static void gettersThatDoNothing() {
        CopiedGraphs x = new CopiedGraphs();
        x.make(0);
        x.put(0, 0, 8, 0);
        x.put(0, 1, 8, 8 * 9 + 5);
        x.put(0, 2, 8, 8 * -3 + 6);
        x.put(0, 3, 8, 8 * -1 + 7);
        x.put(0, 4, 8, MAX);
        x.put(0, 5, 8, MIN);
        Check.written("18: answers", x, 6, 0, 15, 8, 1, 0, 4, 0, 1, 2, 4, 18, 1, 4, 4, 5,
            1, 6, 4, 1, 1, 8, 4, 254, 255, 255, 255, 1, 1, 10, 4, 255, 255, 255, 255, 1, 0);
        Check.due("18: nothing done", x.size(0), 6);
        Check.part("18: a getter stays", x, 0, 1, 1, 8, 77);
    }

    private static void gettersThatTakeAndGive() {
        CopiedGraphs x = new CopiedGraphs();
        x.make(0);
        x.put(0, 1, 8, 2 + 8 * 3);
        x.put(0, 2, 8, 3 + 8 * 9);
        x.put(0, 3, 4, 5);
        x.put(0, 4, 8, 2 + 8 * 4);
        Check.written("18: take and give", x, 6, 0,
            15, 8, 1, 2, 4, 6, 1, 4, 4, 18, 1, 8, 4, 8, 0);
        Check.due("18: size then", x.size(0), 3);
        Check.part("18: what stays", x, 0, 1, 2, 8, 75);
        Check.part("18: what is given", x, 0, 2, 9, 4, 7);
        Check.written("18: what was given", x, 6, 0,
            15, 8, 1, 2, 4, 6, 1, 4, 4, 18, 1, 18, 4, 14, 0);
        takenAndGivenAgain();
        givenToAFullRecord();
        keysBelowNull();
    }

    private static void takenAndGivenAgain() {
        CopiedGraphs x = new CopiedGraphs();
        x.make(0);
        x.put(0, 1, 8, 2 + 8 * 5);
        x.put(0, 2, 8, 3 + 8 * 5);
        x.put(0, 5, 1, 0);
        Check.written("18: it has that key again", x, 6, 0,
            15, 8, 1, 2, 4, 10, 1, 4, 4, 10, 1, 10, 4, 14, 0);
        x.put(0, 5, 1, 0);
        x.put(0, 1, 4, 0);
        Check.written("18: a key that it has is not given", x, 6, 0,
            15, 8, 1, 2, 4, 0, 1, 4, 4, 10, 1, 10, 1, 0);
    }

    private static void givenToAFullRecord() {
        CopiedGraphs x = new CopiedGraphs();
        x.make(0);
        x.put(0, 0, 8, 3 + 8 * 9);
        for (int i = 1; i < 10; i++) {
            x.buffer(i, 1);
        }
        for (int key = 1; key < 6; key++) {
            x.put(0, key, 1, 0);
        }
        x.write(6, 0);
        Check.due("18: six are the most", x.size(0), 6);
        Check.noPart("18: no seventh", () -> x.get(0, 6, 0));
        x.take(0, 5);
        x.write(6, 0);
        Check.part("18: the sixth is given", x, 0, 5, 9, 4, 7);
        Check.due("18: giving detaches nothing", x.size(9), 1);
    }

    private static void keysBelowNull() {
        CopiedGraphs x = new CopiedGraphs();
        x.make(0);
        x.put(0, -3, 8, 3 + 8 * -9);
        x.put(0, -2, 8, 2 + 8 * -2);
        x.put(0, -1, 8, 2 + 8 * -3);
        Check.written("18: arguments below 0", x, 6, 0,
            15, 8, 1, 5, 4, 17, 1, 3, 4, 3, 1, 1, 4, 5, 0);
        Check.due("18: size", x.size(0), 2);
        Check.part("18: left", x, 0, 0, -1, 8, 2 + 8 * -3);
        Check.part("18: given", x, 0, 1, -9, 4, 7);
    }

    private static void gettersThatDetach() {
        CopiedGraphs x = new CopiedGraphs();
        x.make(0);
        x.buffer(5, 1);
        x.make(1);
        x.put(0, 0, 8, 4 + 8 * 2);
        x.put(0, 1, 8, 4 + 8 * 99);
        x.put(0, 2, 8, 4 + 8 * -1);
        x.put(0, 3, 8, 4 + 8 * 1);
        x.put(2, 0, 6, 1);
        x.put(2, 1, 6, 0);
        x.put(2, 2, 6, 1);
        Check.written("18: written before, a place in the row then", x, 6, 2,
            15, 9, 3, 1, 12, 1, 5, 1, 8, 1, 0, 4, 4, 1, 2, 4, 198, 1, 1, 4, 4, 1, 1, 6, 4, 2, 0,
            1, 6, 1);
        Check.due("18: it is detached", x.size(1), NONE);
        Check.due("18: no buffer stays", x.size(2), 3);
        Check.badArgument("18: detached when its turn comes", () -> x.write(6, 2));
    }

    private static void gettersThatThrow() {
        CopiedGraphs x = new CopiedGraphs();
        x.write(4, 3);
        x.make(0);
        x.buffer(1, 1);
        x.put(0, 1, 8, 4 + 8);
        x.put(0, 2, 8, 1 + 8 * 3);
        x.put(0, 3, 8, 3 + 8 * 9);
        Check.harmed("18: a getter throws", () -> x.write(6, 0));
        Check.bytes("18: the bytes stay", x, 15, 4, 6);
        Check.due("18: what getters did stays", x.size(1), NONE);
        Check.due("18: nothing more is done", x.size(0), 3);
        x.put(0, 0, 7, 0);
        Check.badArgument("18: a sign comes first", () -> x.write(6, 0));
        x.put(0, 0, 8, 2 + 8 * 2);
        Check.due("18: taken away before it throws", x.write(6, 0), 15);
    }

    private static void impossibleAtOnce() {
        CopiedGraphs x = new CopiedGraphs();
        x.make(1);
        x.make(7);
        x.make(0);
        x.buffer(1, 1);
        x.put(2, 0, 8, 4 + 8 * 3);
        x.put(0, 1, 6, 2);
        int[][] bad = {{7, 0}, {6, 1}};
        for (int[] v : bad) {
            x.put(0, 0, v[0], v[1]);
            Check.badArgument("18: impossible", () -> x.write(6, 0));
            Check.due("18: no getter ran", x.size(3), 1);
        }
        x.put(0, 2, 6, 1);
        x.take(0, 0);
        Check.badArgument("18: impossible later", () -> x.write(6, 0));
        Check.due("18: the getter ran", x.size(3), NONE);
        Check.badArgument("18: an actor", () -> x.write(6, 1));
    }

    /** Lists in lists; the last one, at this depth, is left empty. */
    private static CopiedGraphs nest(int depth) {
        return Scenes.made(Scenes.nest(depth));
    }

    private static void depth() {
        CopiedGraphs x = nest(12);
        Check.due("18: depth 12", x.write(6, 0), 1 + 2 * 12 + 11);
        x.put(11, 3, 1, 0);
        x.take(11, 3);
        Check.due("18: holes at depth 12", x.write(6, 0), 1 + 2 * 12 + 11 + 4);
        x.put(11, 0, 1, 0);
        Check.badArgument("18: a value at depth 13", () -> x.write(6, 0));
        Check.due("18: from depth 2 it is 12", x.write(6, 1), 1 + 2 * 11 + 10 + 5);
        x.put(11, 0, 6, 0);
        Check.badArgument("18: a place in the row at depth 13", () -> x.write(6, 0));
        Check.badArgument("18: depth 13", () -> nest(13).write(6, 0));
        CopiedGraphs record = nest(11);
        record.make(0);
        record.buffer(1, 1);
        record.put(10, 0, 6, 11);
        record.put(11, 0, 8, 4 + 8 * 12);
        Check.badArgument("18: an answer at depth 13", () -> record.write(6, 0));
        Check.due("18: the getter was run", record.size(12), NONE);
        record.put(11, 0, 8, 1);
        Check.harmed("18: it throws before the depth is above 12", () -> record.write(6, 0));
        record.take(11, 0);
        Check.due("18: an empty record at depth 12", record.write(6, 0), 1 + 3 * 11 + 2);
    }

    /** Map 10 is at depth 11; list 11, with one value, is in nothing yet. */
    private static CopiedGraphs mapAndList() {
        CopiedGraphs x = nest(10);
        x.make(2);
        x.make(1);
        x.put(9, 0, 6, 10);
        x.put(11, 0, 1, 0);
        return x;
    }

    private static void viewDepth() {
        CopiedGraphs x = nest(11);
        x.buffer(1, 1);
        x.view(11, 1, 0, 1);
        x.put(10, 0, 6, 11);
        Check.due("18: a buffer at depth 12", x.write(6, 0), 1 + 3 * 11 + 3);
        x.put(10, 0, 6, 12);
        Check.badArgument("18: a view's buffer at depth 13", () -> x.write(6, 0));
        x.pass(11);
        Check.badArgument("18: a handed one at depth 13", () -> x.write(6, 0));
        Check.due("18: at depth 12", x.write(6, 1), 1 + 3 * 10 + 4 + 3);
        CopiedGraphs map = nest(11);
        map.make(2);
        map.put(10, 0, 6, 11);
        map.entry(11, 1, 0, 1, 0);
        Check.badArgument("18: a map's key at depth 13", () -> map.write(6, 0));
        CopiedGraphs key = mapAndList();
        key.entry(10, 6, 11, 1, 0);
        Check.badArgument("18: in a map's key at depth 13", () -> key.write(6, 0));
        Check.due("18: in a map's key at depth 12", key.write(6, 1), 1 + 3 * 9 + 2 + 5);
        CopiedGraphs value = mapAndList();
        value.entry(10, 1, 0, 6, 11);
        Check.badArgument("18: in a map's value at depth 13", () -> value.write(6, 0));
        CopiedGraphs set = nest(11);
        set.make(3);
        set.put(10, 0, 6, 11);
        set.add(11, 1, 0);
        Check.badArgument("18: a member at depth 13", () -> set.write(6, 0));
    }

    /** A list whose writing takes this many bytes (from 200 to 330), its last place free. */
    private static CopiedGraphs listOfLength(int bytes) {
        return Scenes.made(Scenes.listOfLength(bytes));
    }

    private static void lengthLimit() {
        CopiedGraphs x = new CopiedGraphs();
        x.write(4, 9);
        for (int bytes = 290; bytes <= 300; bytes++) {
            Check.due("18: " + bytes + " bytes", listOfLength(bytes).write(6, 0), bytes);
        }
        CopiedGraphs full = listOfLength(300);
        full.write(6, 0);
        Check.due("18: the last byte", full.byteAt(299) == NONE ? 0 : 1, 1);
        for (int bytes = 301; bytes <= 310; bytes++) {
            CopiedGraphs over = listOfLength(bytes);
            over.write(4, 9);
            Check.badArgument("18: " + bytes + " bytes", () -> over.write(6, 0));
            Check.bytes("18: the bytes stay", over, 15, 4, 18);
        }
    }

    private static void getterAtTheLimit() {
        for (int before = 295; before <= 301; before++) {
            CopiedGraphs x = listOfLength(before - 1);
            int record = x.make(0);
            int buffer = x.buffer(1, 1);
            x.put(record, 0, 8, 4 + 8 * buffer);
            x.put(0, 7, 6, record);
            Check.badArgument("18: too many bytes", () -> x.write(6, 0));
            // The record's 8 is byte number before + 1; its getter is run when there is room for that.
            int want = before + 1 <= 300 ? NONE : 1;
            Check.due("18: the getter at byte " + before, x.size(buffer), want);
        }
    }

    private static void pass() {
        CopiedGraphs x = new CopiedGraphs();
        for (int o : new int[] {0, -1, MIN, MAX}) {
            Check.badArgument("16: no object " + o, () -> x.pass(o));
        }
        x.buffer(1, 1);
        x.make(7);
        Check.due("16: pass", x.pass(0), 1);
        Check.due("16: whatever it is", x.pass(1), 2);
        Check.due("16: twice", x.pass(0), 3);
        Check.due("16: pass", x.pass(1), 4);
        Check.badState("16: a fifth", () -> x.pass(0));
        Check.badArgument("16: a fifth that is none", () -> x.pass(2));
        Check.badArgument("16: they can't be handed over", () -> x.write(1, 0));
        Check.due("16: nothing is passed then", x.pass(0), 1);
        Check.badArgument("18: no such value", () -> x.write(9, 0));
        Check.due("18: nothing is passed then", x.pass(0), 1);
        Check.due("18: write", x.write(1, 0), 2);
        Check.due("18: nothing is passed then", x.pass(1), 1);
    }

    private static void handOver() {
        CopiedGraphs x = new CopiedGraphs();
        x.buffer(0x0201, 2);
        x.buffer(0x09, 1);
        x.make(1);
        x.view(1, 1, 1, 0);
        x.put(2, 0, 6, 1);
        x.put(2, 1, 6, 3);
        x.put(2, 2, 6, 1);
        x.put(2, 3, 6, 3);
        x.put(2, 4, 6, 0);
        x.pass(0);
        x.pass(1);
        Check.written("18: handed over", x, 6, 2,
            15, 9, 5, 1, 7, 1, 1, 13, 1, 1, 0, 7, 1, 1, 7, 1, 1, 6, 1, 1, 7, 0);
        Check.due("17: holders", x.holders(), 2);
        Check.due("18: detached", x.size(0), NONE);
        Check.due("18: detached", x.size(1), NONE);
        Check.no("18: detached", x.detach(1));
        Check.due("19: read", x.read(), 6);
        Check.due("19: holders are gone", x.holders(), 0);
        Check.due("19: objects", x.objects(), 8);
        Check.due("19: the first holder", x.size(4), 2);
        Check.part("19: its bytes", x, 4, 1, 1, 4, 2);
        Check.part("19: the second holder", x, 5, 0, 0, 4, 9);
        Check.due("20: found", x.found(), 6);
        Check.part("19: handed", x, 6, 0, 0, 6, 5);
        Check.part("19: view", x, 6, 1, 1, 6, 7);
        Check.part("19: handed again", x, 6, 2, 2, 6, 5);
        Check.part("19: view again", x, 6, 3, 3, 6, 7);
        Check.part("19: the other", x, 6, 4, 4, 6, 4);
        Check.due("19: the view's buffer", x.get(7, 0, 0), 5);
    }

    private static void handOverRefused() {
        CopiedGraphs x = new CopiedGraphs();
        x.buffer(1, 1);
        x.buffer(2, 1);
        x.make(1);
        x.view(0, 1, 0, 1);
        int[][] bad = {{0, 0}, {0, 1, 0}, {1, 2}, {3}, {2}};
        for (int[] passed : bad) {
            for (int o : passed) {
                x.pass(o);
            }
            Check.badArgument("18: can't be handed over", () -> x.write(1, 0));
            Check.due("17: no holders", x.holders(), 0);
            Check.due("18: not detached", x.size(0), 1);
        }
        x.pass(0);
        x.pass(1);
        x.detach(1);
        Check.badArgument("18: one is detached", () -> x.write(1, 0));
        Check.due("18: the other is not", x.size(0), 1);
        x.make(0);
        x.put(4, 0, 8, 4);
        x.pass(1);
        Check.badArgument("18: refused at once", () -> x.write(6, 4));
        Check.due("18: no getter ran", x.size(0), 1);
    }

    private static void handOverDetachedOnTheWay() {
        CopiedGraphs x = new CopiedGraphs();
        x.buffer(1, 1);
        x.make(0);
        x.buffer(2, 1);
        x.put(1, 0, 8, 4);
        x.pass(2);
        x.pass(0);
        x.write(4, 4);
        x.clear();
        x.buffer(1, 1);
        x.make(0);
        x.buffer(2, 1);
        x.put(1, 0, 8, 4);
        x.pass(2);
        x.pass(0);
        Check.badArgument("18: detached on the way", () -> x.write(6, 1));
        Check.due("18: what the getter did stays", x.size(0), NONE);
        Check.due("18: the other is not detached", x.size(2), 1);
        Check.due("17: no holders", x.holders(), 0);
        Check.bytes("18: the bytes stay", x, 15, 4, 8);
        CopiedGraphs late = new CopiedGraphs();
        late.buffer(1, 1);
        late.make(0);
        late.put(1, 0, 8, 4);
        late.put(1, 1, 6, 0);
        late.put(1, 2, 8, 1);
        late.pass(0);
        Check.harmed("18: all is not written yet", () -> late.write(6, 1));
    }

    private static void holdersReplaced() {
        CopiedGraphs x = new CopiedGraphs();
        x.buffer(1, 1);
        x.buffer(2, 2);
        x.buffer(3, 3);
        x.pass(0);
        x.pass(1);
        x.write(1, 0);
        Check.due("17: holders", x.holders(), 2);
        x.pass(2);
        x.write(1, 0);
        Check.due("17: others in their place", x.holders(), 1);
        x.pass(2);
        Check.badArgument("18: refused", () -> x.write(1, 0));
        Check.due("17: they stay when it is refused", x.holders(), 1);
        x.read();
        Check.due("19: the holder's buffer", x.size(3), 3);
        x.pass(3);
        x.write(1, 0);
        Check.due("17: holders", x.holders(), 1);
        x.write(1, 0);
        Check.due("17: gone when none is passed", x.holders(), 0);
    }

    private static void refusalLeavesAll() {
        CopiedGraphs x = new CopiedGraphs();
        x.make(1);
        x.make(7);
        x.buffer(1, 1);
        x.put(0, 0, 6, 2);
        x.pass(2);
        x.write(6, 0);
        x.put(0, 0, 6, 1);
        Check.badArgument("18: refused", () -> x.write(6, 0));
        Check.bytes("18: the bytes stay", x, 15, 9, 1, 1, 7, 0);
        Check.due("17: the holders stay", x.holders(), 1);
        Check.due("18: the objects stay", x.objects(), 3);
    }
}

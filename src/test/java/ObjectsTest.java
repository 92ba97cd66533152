/** Promises 1 to 15: making objects, changing them, and looking at them. */
public final class ObjectsTest {
    private static final int NONE = CopiedGraphs.NONE;
    private static final int MIN = Integer.MIN_VALUE;
    private static final int MAX = Integer.MAX_VALUE;

    public static void main(String[] args) {
        newObject();
        make();
        buffer();
        view();
        stamp();
        putInRecord();
        putInList();
        putValues();
        takeFromRecord();
        takeFromList();
        entry();
        add();
        detach();
        clear();
        typeAndSize();
        get();
        fullRoom();
        Check.end();
    }

    private static void newObject() {
        CopiedGraphs x = new CopiedGraphs();
        Check.due("1: objects()", x.objects(), 0);
        Check.due("1: holders()", x.holders(), 0);
        Check.due("1: found()", x.found(), 0);
        Check.due("1: byteAt(0)", x.byteAt(0), NONE);
        Check.due("1: type(0)", x.type(0), NONE);
        Check.due("1: wipe()", x.wipe(), 0);
        Check.due("1: clear()", x.clear(), 0);
        Check.badArgument("1: read()", () -> x.read());
        x.buffer(1, 1);
        Check.due("1: nothing is passed", x.pass(0), 1);
        CopiedGraphs other = new CopiedGraphs();
        Check.due("1: another object's objects()", other.objects(), 0);
    }

    private static void make() {
        CopiedGraphs x = new CopiedGraphs();
        int[] types = {0, 1, 2, 3, 7};
        for (int i = 0; i < types.length; i++) {
            Check.due("2: make", x.make(types[i]), i);
            Check.due("2: type", x.type(i), types[i]);
            Check.due("2: size", x.size(i), types[i] == 7 ? NONE : 0);
            Check.due("2: objects", x.objects(), i + 1);
        }
        for (int type : new int[] {-1, 4, 5, 6, 8, MIN, MAX}) {
            Check.badArgument("2: make(" + type + ")", () -> x.make(type));
        }
        Check.due("2: objects after refusals", x.objects(), 5);
    }

    private static void buffer() {
        CopiedGraphs x = new CopiedGraphs();
        Check.due("3: buffer", x.buffer(0xF1E2D3C4B5A69788L, 8), 0);
        Check.due("3: buffer of none", x.buffer(-1, 0), 1);
        Check.due("3: buffer of 3", x.buffer(0x7F80FF01L, 3), 2);
        int[] bytes = {0x88, 0x97, 0xA6, 0xB5, 0xC4, 0xD3, 0xE2, 0xF1};
        Check.due("3: size", x.size(0), 8);
        for (int k = 0; k < 8; k++) {
            Check.part("3: byte", x, 0, k, k, 4, bytes[k]);
        }
        Check.due("3: size of none", x.size(1), 0);
        Check.due("3: size of 3", x.size(2), 3);
        Check.part("3: byte", x, 2, 0, 0, 4, 0x01);
        Check.part("3: byte", x, 2, 1, 1, 4, 0xFF);
        Check.part("3: byte", x, 2, 2, 2, 4, 0x80);
        Check.noPart("3: a byte behind the last", () -> x.get(2, 3, 2));
        for (int n : new int[] {-1, 9, MIN, MAX}) {
            Check.badArgument("3: buffer of " + n, () -> x.buffer(1, n));
        }
        Check.due("3: objects after refusals", x.objects(), 3);
    }

    private static void view() {
        CopiedGraphs x = new CopiedGraphs();
        x.buffer(1, 8);
        x.make(0);
        x.buffer(0, 0);
        x.buffer(0, 6);
        int[][] good = {{0, 1, 0, 8}, {0, 1, 8, 0}, {0, 1, 7, 1}, {0, 2, 2, 3}, {0, 2, 8, 0},
            {0, 4, 4, 1}, {0, 4, 0, 2}, {0, 4, 0, 0}, {2, 4, 0, 0}, {3, 4, 0, 1}, {3, 2, 0, 3}};
        for (int i = 0; i < good.length; i++) {
            int[] v = good[i];
            int o = 4 + i;
            Check.due("4: view", x.view(v[0], v[1], v[2], v[3]), o);
            Check.due("4: type", x.type(o), 5);
            Check.due("4: size", x.size(o), v[3]);
            for (int what = 0; what < 4; what++) {
                Check.due("4: get", x.get(o, 0, what), v[what]);
            }
        }
        int[][] bad = {{0, 1, 0, 9}, {0, 1, 9, 0}, {0, 1, 8, 1}, {0, 2, 1, 1}, {0, 2, 4, 3},
            {0, 4, 2, 1}, {0, 4, 4, 2}, {0, 3, 0, 1}, {0, 0, 0, 0}, {0, 8, 0, 1}, {0, -1, 0, 0},
            {0, 1, -1, 1}, {0, 2, -2, 1}, {0, 1, 0, -1}, {0, 1, 2, -1}, {0, 4, 0, MAX},
            {0, 4, 0, 1 << 30}, {0, 4, 4, -1}, {0, 1, MAX, MAX}, {0, 2, MIN, 4}, {0, 1, 1, MAX},
            {1, 1, 0, 0}, {4, 1, 0, 0}, {-1, 1, 0, 0}, {99, 1, 0, 0}, {3, 4, 4, 1}, {MIN, 1, 0, 0}};
        int there = x.objects();
        for (int[] v : bad) {
            String call = "4: view" + java.util.Arrays.toString(v);
            Check.badArgument(call, () -> x.view(v[0], v[1], v[2], v[3]));
        }
        x.detach(0);
        Check.badArgument("4: view of a detached one", () -> x.view(0, 1, 0, 0));
        Check.due("4: objects after refusals", x.objects(), there);
        Check.due("4: a view's COUNT stays", x.size(4), 8);
        Check.due("4: a view's buffer stays", x.get(4, 0, 0), 0);
    }

    private static void stamp() {
        CopiedGraphs x = new CopiedGraphs();
        long[] stamps = {0, -1, Long.MIN_VALUE, Long.MAX_VALUE, 1234567890123L};
        for (int i = 0; i < stamps.length; i++) {
            Check.due("5: stamp", x.stamp(stamps[i]), i);
            Check.due("5: type", x.type(i), 6);
            Check.due("5: size", x.size(i), NONE);
            Check.due("5: get", x.get(i, 0, 0), stamps[i]);
        }
    }

    private static void putInRecord() {
        CopiedGraphs x = new CopiedGraphs();
        x.make(0);
        x.put(0, -5, 4, 1);
        x.put(0, 3, 4, 2);
        x.put(0, -9, 4, 3);
        x.put(0, 0, 4, 4);
        x.put(0, MAX, 4, 5);
        x.put(0, MIN, 8, -77);
        Check.part("6: order", x, 0, 0, 0, 4, 4);
        Check.part("6: order", x, 0, 1, 3, 4, 2);
        Check.part("6: order", x, 0, 2, MAX, 4, 5);
        Check.part("6: order", x, 0, 3, -5, 4, 1);
        Check.part("6: order", x, 0, 4, -9, 4, 3);
        Check.part("6: order", x, 0, 5, MIN, 8, -77);
        Check.badState("6: a seventh", () -> x.put(0, 1, 4, 0));
        Check.badState("6: a seventh below 0", () -> x.put(0, -1, 8, 0));
        Check.badArgument("6: a seventh of no value", () -> x.put(0, 1, 9, 0));
        x.put(0, -5, 3, 9);
        x.put(0, 3, 8, 5);
        Check.due("6: size", x.size(0), 6);
        Check.part("6: keeps its place", x, 0, 3, -5, 3, 0);
        Check.part("6: keeps its place", x, 0, 1, 3, 8, 5);
        x.take(0, -5);
        x.put(0, -5, 4, 6);
        Check.part("6: comes anew", x, 0, 5, -5, 4, 6);
        Check.part("6: moves up", x, 0, 3, -9, 4, 3);
    }

    private static void putInList() {
        CopiedGraphs x = new CopiedGraphs();
        x.make(1);
        x.put(0, 2, 4, -8);
        Check.due("6: length", x.size(0), 3);
        Check.part("6: hole", x, 0, 0, 0, NONE, 0);
        Check.part("6: hole", x, 0, 1, 1, NONE, 0);
        Check.part("6: place", x, 0, 2, 2, 4, -8);
        x.put(0, 0, 6, 0);
        Check.due("6: length stays", x.size(0), 3);
        Check.part("6: place", x, 0, 0, 0, 6, 0);
        x.put(0, 2, 1, 5);
        Check.part("6: in its place", x, 0, 2, 2, 1, 0);
        x.put(0, 7, 5, 97);
        Check.due("6: longest", x.size(0), 8);
        Check.part("6: hole", x, 0, 6, 6, NONE, 0);
        for (int key : new int[] {-1, 8, MIN, MAX}) {
            Check.badArgument("6: a list's key " + key, () -> x.put(0, key, 4, 1));
        }
        Check.badArgument("6: a getter in a list", () -> x.put(0, 0, 8, 0));
        Check.part("6: place stays", x, 0, 0, 0, 6, 0);
    }

    private static void putValues() {
        CopiedGraphs x = new CopiedGraphs();
        x.make(0);
        x.make(1);
        x.make(2);
        x.make(3);
        x.make(7);
        x.buffer(0, 0);
        x.view(5, 1, 0, 0);
        x.stamp(0);
        int[][] good = {{0, 5, 0}, {1, -1, 0}, {2, MAX, 0}, {3, MIN, 0}, {4, MIN, MIN},
            {4, MAX, MAX}, {5, 0, 0}, {5, 255, 255}, {5, 0x6261, 0x6261}, {5, 0xFF0102, 0xFF0102},
            {5, 0x80010203, 0x80010203}, {5, -1, -1}, {6, 7, 7}, {6, 0, 0}, {7, MIN, MIN}, {7, 3, 3}};
        for (int[] v : good) {
            String value = "6: value " + v[0] + " " + v[1];
            x.put(0, 1, v[0], v[1]);
            Check.part(value, x, 0, 0, 1, v[0], v[2]);
            x.put(1, 0, v[0], v[1]);
            Check.part(value, x, 1, 0, 0, v[0], v[2]);
        }
        int[][] bad = {{-1, 0}, {9, 0}, {MIN, 0}, {MAX, 0}, {5, 0x100}, {5, 0x10001}, {5, 0x1000001},
            {5, 0x1000101}, {5, 0x10000}, {5, MIN}, {6, -1}, {6, 8}, {6, MIN}, {6, MAX}};
        for (int[] v : bad) {
            String value = "6: no value " + v[0] + " " + v[1];
            Check.badArgument(value, () -> x.put(0, 1, v[0], v[1]));
            Check.badArgument(value, () -> x.put(1, 0, v[0], v[1]));
        }
        Check.part("6: stays", x, 0, 0, 1, 7, 3);
        Check.part("6: stays", x, 1, 0, 0, 7, 3);
        for (int o : new int[] {2, 3, 4, 5, 6, 7, 8, -1, MIN, MAX}) {
            Check.badArgument("6: neither " + o, () -> x.put(o, 0, 4, 0));
        }
    }

    private static void takeFromRecord() {
        CopiedGraphs x = new CopiedGraphs();
        x.make(0);
        Check.no("7: from an empty one", x.take(0, 0));
        x.put(0, 4, 4, 40);
        x.put(0, 1, 4, 10);
        x.put(0, -1, 4, 11);
        x.put(0, 7, 8, 70);
        Check.no("7: another key", x.take(0, 2));
        Check.yes("7: key", x.take(0, 4));
        Check.no("7: key again", x.take(0, 4));
        Check.due("7: size", x.size(0), 3);
        Check.part("7: rest", x, 0, 0, 1, 4, 10);
        Check.part("7: rest", x, 0, 1, 7, 8, 70);
        Check.part("7: rest", x, 0, 2, -1, 4, 11);
        Check.yes("7: a getter", x.take(0, 7));
        Check.yes("7: below 0", x.take(0, -1));
        Check.yes("7: the last", x.take(0, 1));
        Check.due("7: size", x.size(0), 0);
        Check.noPart("7: nothing left", () -> x.get(0, 0, 0));
    }

    private static void takeFromList() {
        CopiedGraphs x = new CopiedGraphs();
        x.make(1);
        Check.no("7: no place", x.take(0, 0));
        x.put(0, 0, 4, 1);
        x.put(0, 2, 4, 3);
        Check.yes("7: place", x.take(0, 0));
        Check.part("7: hole", x, 0, 0, 0, NONE, 0);
        Check.yes("7: the last place", x.take(0, 2));
        Check.due("7: length stays", x.size(0), 3);
        Check.yes("7: a hole is at that place", x.take(0, 1));
        for (int key : new int[] {3, 8, -1, MIN, MAX}) {
            Check.no("7: no place " + key, x.take(0, key));
        }
        x.make(2);
        x.make(3);
        x.make(7);
        x.buffer(0, 1);
        x.view(4, 1, 0, 1);
        x.stamp(1);
        for (int o : new int[] {1, 2, 3, 4, 5, 6, 7, -1, MIN, MAX}) {
            Check.badArgument("7: neither " + o, () -> x.take(o, 0));
        }
    }

    private static void entry() {
        CopiedGraphs x = new CopiedGraphs();
        x.make(2);
        x.make(0);
        x.entry(0, 4, 5, 4, 50);
        x.entry(0, 5, 5, 3, 9);
        x.entry(0, 0, 7, 6, 0);
        x.entry(0, 7, 5, 7, 6);
        int[][] want = {{4, 5, 4, 50}, {5, 5, 3, 0}, {0, 0, 6, 0}, {7, 5, 7, 6}};
        for (int k = 0; k < 4; k++) {
            Check.part("8: entry", x, 0, k, want[k][1], want[k][2], want[k][3]);
            Check.due("8: kind of key", x.get(0, k, 3), want[k][0]);
        }
        Check.due("8: size", x.size(0), 4);
        Check.badState("8: a fifth", () -> x.entry(0, 6, 0, 4, 0));
        Check.badState("8: a fifth", () -> x.entry(0, 1, 0, 4, 0));
        x.entry(0, 0, -3, 1, 3);
        Check.due("8: size stays", x.size(0), 4);
        Check.part("8: another value", x, 0, 2, 0, 1, 0);
        int[][] bad = {{8, 0, 4, 0}, {4, 0, 8, 0}, {-1, 0, 4, 0}, {4, 0, -1, 0}, {6, 2, 4, 0},
            {4, 5, 6, 2}, {5, 256, 4, 0}, {4, 5, 5, 256}, {6, -1, 4, 0}};
        for (int[] v : bad) {
            String call = "8: entry" + java.util.Arrays.toString(v);
            Check.badArgument(call, () -> x.entry(0, v[0], v[1], v[2], v[3]));
        }
        for (int o : new int[] {1, 2, -1, MIN, MAX}) {
            Check.badArgument("8: no map " + o, () -> x.entry(o, 4, 0, 4, 0));
        }
    }

    private static void add() {
        CopiedGraphs x = new CopiedGraphs();
        x.make(3);
        x.make(2);
        Check.yes("9: add", x.add(0, 4, 0));
        Check.yes("9: another kind", x.add(0, 5, 0));
        Check.yes("9: itself", x.add(0, 6, 0));
        Check.yes("9: false", x.add(0, 2, 8));
        Check.no("9: false again", x.add(0, 2, 7));
        Check.yes("9: sign", x.add(0, 7, -1));
        Check.no("9: it has it, full", x.add(0, 4, 0));
        Check.badState("9: a sixth", () -> x.add(0, 4, 1));
        int[][] want = {{4, 0}, {5, 0}, {6, 0}, {2, 0}, {7, -1}};
        for (int k = 0; k < 5; k++) {
            Check.part("9: value", x, 0, k, k, want[k][0], want[k][1]);
        }
        Check.due("9: size", x.size(0), 5);
        int[][] bad = {{8, 0}, {-1, 0}, {6, 2}, {6, -1}, {5, 0x100}};
        for (int[] v : bad) {
            Check.badArgument("9: no value", () -> x.add(0, v[0], v[1]));
        }
        for (int o : new int[] {1, 2, -1, MIN, MAX}) {
            Check.badArgument("9: no set " + o, () -> x.add(o, 4, 0));
        }
    }

    private static void detach() {
        CopiedGraphs x = new CopiedGraphs();
        x.buffer(3, 2);
        x.buffer(0, 0);
        x.view(0, 1, 0, 2);
        x.make(0);
        Check.yes("10: detach", x.detach(0));
        Check.no("10: detach again", x.detach(0));
        Check.due("10: size", x.size(0), NONE);
        Check.due("10: type", x.type(0), 4);
        Check.noPart("10: it has no bytes", () -> x.get(0, 0, 2));
        Check.yes("10: a buffer of none", x.detach(1));
        Check.due("10: its size", x.size(1), NONE);
        for (int o : new int[] {2, 3, 4, -1, MIN, MAX}) {
            Check.no("10: no buffer " + o, x.detach(o));
        }
    }

    private static void clear() {
        CopiedGraphs x = new CopiedGraphs();
        x.buffer(3, 2);
        x.make(0);
        x.put(1, 5, 4, 5);
        x.pass(0);
        x.write(4, 7);
        x.detach(0);
        x.buffer(5, 1);
        x.pass(2);
        Check.due("11: holders before", x.holders(), 1);
        Check.due("11: clear", x.clear(), 3);
        Check.due("11: objects", x.objects(), 0);
        Check.due("11: holders", x.holders(), 0);
        Check.due("11: type", x.type(0), NONE);
        Check.bytes("11: bytes stay", x, 15, 4, 14);
        Check.due("11: read", x.read(), 4);
        Check.due("11: found", x.found(), 7);
        Check.due("11: clear", x.clear(), 0);
        Check.due("11: found stays", x.found(), 7);
        Check.due("11: numbered anew", x.make(0), 0);
        Check.due("11: a new one is empty", x.size(0), 0);
        x.buffer(6, 1);
        Check.due("11: a new one is not detached", x.size(1), 1);
        Check.due("11: nothing was passed", x.pass(1), 1);
        x.clear();
        x.buffer(7, 1);
        Check.due("11: it is no longer detached", x.size(0), 1);
        Check.badArgument("11: the old object is none", () -> x.pass(1));
    }

    private static void typeAndSize() {
        CopiedGraphs x = new CopiedGraphs();
        x.make(0);
        x.make(1);
        x.make(2);
        x.make(3);
        x.buffer(0, 5);
        x.view(4, 2, 2, 1);
        x.stamp(8);
        x.make(7);
        x.put(0, 1, 1, 0);
        x.put(1, 4, 1, 0);
        x.entry(2, 1, 0, 1, 0);
        x.add(3, 1, 0);
        int[] sizes = {1, 5, 1, 1, 5, 1, NONE, NONE};
        Check.due("12: objects", x.objects(), 8);
        for (int o = 0; o < 8; o++) {
            Check.due("13: type", x.type(o), o);
            Check.due("14: size of type " + o, x.size(o), sizes[o]);
        }
        for (int o : new int[] {8, 31, 32, 33, -1, MIN, MAX}) {
            Check.due("13: no type", x.type(o), NONE);
            Check.due("14: no size", x.size(o), NONE);
        }
    }

    private static void get() {
        CopiedGraphs x = new CopiedGraphs();
        x.make(0);
        x.make(1);
        x.make(2);
        x.make(3);
        x.buffer(9, 1);
        x.view(4, 1, 0, 1);
        x.stamp(-8);
        x.make(7);
        x.put(0, 6, 4, 1);
        x.put(1, 0, 4, 1);
        x.entry(2, 4, 6, 4, 1);
        x.add(3, 4, 1);
        int[] mostWhat = {2, 2, 3, 2, 2, 3, 0, -1};
        for (int o = 0; o < 8; o++) {
            int object = o;
            for (int what : new int[] {-1, 0, 1, 2, 3, 4, MIN, MAX}) {
                String call = "15: get of type " + o + ", what " + what;
                if (what < 0 || what > mostWhat[o]) {
                    Check.noPart(call, () -> x.get(object, 0, what));
                } else {
                    Check.refuses(call, () -> x.get(object, 0, what), null);
                }
                for (int k : new int[] {-1, 1, 8, MIN, MAX}) {
                    Check.noPart(call + ", k " + k, () -> x.get(object, k, what));
                }
            }
        }
        Check.due("15: stamp", x.get(6, 0, 0), -8);
        Check.due("15: kind of key", x.get(2, 0, 3), 4);
        for (int o : new int[] {8, -1, MIN, MAX}) {
            Check.noPart("15: no object", () -> x.get(o, 0, 0));
        }
    }

    private static void fullRoom() {
        CopiedGraphs x = new CopiedGraphs();
        x.buffer(1, 1);
        for (int i = 1; i < 32; i++) {
            Check.due("2: make up to 32", x.make(i % 4), i);
        }
        Check.badState("2: a 33rd", () -> x.make(0));
        Check.badState("2: a 33rd actor", () -> x.make(7));
        Check.badArgument("2: no type, when there are 32", () -> x.make(4));
        Check.badState("3: a 33rd", () -> x.buffer(1, 8));
        Check.badArgument("3: no length, when there are 32", () -> x.buffer(1, 9));
        Check.badState("4: a 33rd", () -> x.view(0, 1, 0, 1));
        Check.badArgument("4: no view, when there are 32", () -> x.view(0, 2, 0, 1));
        Check.badState("5: a 33rd", () -> x.stamp(1));
        Check.due("12: objects", x.objects(), 32);
        Check.due("13: the last one's type", x.type(31), 3);
        Check.due("11: clear", x.clear(), 32);
        Check.due("2: room again", x.make(0), 0);
    }
}

/** The edges in the document's terms VALUES and OBJECTS, a test for each sentence. */
public final class ValueEdgesTest {
    private static final int MIN = Integer.MIN_VALUE;
    private static final int MAX = Integer.MAX_VALUE;
    private static final Edge.Scene FOUR = Scenes.FOUR;

    public static void main(String[] args) {
        kinds();
        numbersThatMeanNothing();
        numbers();
        texts();
        objectNumbers();
        signs();
        sameValues();
        numberedFromNull();
        atMost32();
        properties();
        keys();
        gettersInRecordsAlone();
        order();
        lengths();
        entries();
        members();
        bytesOfBuffers();
        detached();
        units();
        froms();
        counts();
        whenItWasMade();
        stamps();
        Check.end();
    }

    /** The value is taken by every call that wants one, and told with this number. */
    private static void isValue(Edge.Scene scene, int kind, int v, int number) {
        String what = "value " + kind + " " + v;
        String told = kind + "." + number;
        Edge.object(what, Edge.then(scene, x -> x.put(0, 9, kind, v)), 0, "record(9=" + told + ")");
        Edge.object(what, Edge.then(scene, x -> x.put(1, 0, kind, v)), 1, "list(" + told + ")");
        Edge.object(what, Edge.then(scene, x -> x.entry(2, kind, v, 1, 0)), 2, "map(" + told + "=1.0)");
        Edge.object(what, Edge.then(scene, x -> x.entry(2, 1, 0, kind, v)), 2, "map(1.0=" + told + ")");
        Edge.object(what, Edge.then(scene, x -> x.add(3, kind, v)), 3, "set(" + told + ")");
        Edge.answers(what, scene, x -> Edge.bool(x.add(3, kind, v)), 1);
    }

    private static void isValue(int kind, int v) {
        isValue(FOUR, kind, v, v);
    }

    /** The value is refused by every call that wants one. */
    private static void isNone(Edge.Scene scene, int kind, int v) {
        String what = "no value " + kind + " " + v;
        if (kind != 8) {
            Edge.refuses(what, scene, x -> x.put(0, 9, kind, v), Edge.ARGUMENT);
        }
        Edge.refuses(what, scene, x -> x.put(1, 0, kind, v), Edge.ARGUMENT);
        Edge.refuses(what, scene, x -> x.entry(2, kind, v, 1, 0), Edge.ARGUMENT);
        Edge.refuses(what, scene, x -> x.entry(2, 1, 0, kind, v), Edge.ARGUMENT);
        Edge.refuses(what, scene, x -> x.add(3, kind, v), Edge.ARGUMENT);
        Edge.refuses(what, scene, x -> x.write(kind, v), Edge.ARGUMENT);
    }

    private static void kinds() {
        Edge.sentence("VALUES have a KIND and a number: 0 UNDEFINED, .. 7 SIGN");
        for (int kind : new int[] {MIN, -1, 8, 9, MAX}) {
            isNone(FOUR, kind, 0);
        }
        for (int kind = 0; kind <= 7; kind++) {
            isValue(FOUR, kind, 0, 0);
        }
    }

    private static void numbersThatMeanNothing() {
        Edge.sentence("0 UNDEFINED, 1 NULL, 2 FALSE, 3 TRUE (the number means nothing and counts as 0)");
        for (int kind = 0; kind <= 3; kind++) {
            int k = kind;
            for (int v : new int[] {MIN, -1, 0, 1, MAX}) {
                isValue(FOUR, kind, v, 0);
                Edge.writes("write(" + kind + ", " + v + ")", FOUR, kind, v, 15, kind);
                Edge.Scene added = Edge.then(FOUR, x -> x.add(3, k, 5));
                Edge.keeps("it has it", added, x -> Edge.bool(x.add(3, k, v)), 0);
                Edge.Scene entered = Edge.then(FOUR, x -> x.entry(2, k, 5, 1, 0));
                Edge.Scene again = Edge.then(entered, x -> x.entry(2, k, v, 4, 6));
                Edge.object("the same key", again, 2, "map(" + kind + ".0=4.6)");
            }
        }
        isValue(FOUR, 4, 1, 1);
    }

    private static void numbers() {
        Edge.sentence("4 NUMBER (any int)");
        for (int v : new int[] {MIN, MIN + 1, -1, 0, 1, MAX - 1, MAX}) {
            isValue(4, v);
            Edge.Scene written = Edge.then(FOUR, x -> x.write(4, v));
            Edge.answers("written and read", written, x -> x.read(), 4);
            Edge.answers("found()", Edge.then(written, x -> x.read()), x -> x.found(), v);
        }
    }

    private static void texts() {
        Edge.sentence("5 TEXT (up to four bytes that are not 0, the first one lowest, 0 behind them)");
        int[] texts = {0, 1, 0xFF, 0x101, 0xFFFF, 0x10101, 0xFFFFFF, 0x1010101, 0x7FFFFFFF, -1};
        int[] lengths = {0, 1, 1, 2, 2, 3, 3, 4, 4, 4};
        for (int i = 0; i < texts.length; i++) {
            int text = texts[i];
            isValue(5, text);
            Edge.Scene written = Edge.then(FOUR, x -> x.write(5, text));
            Edge.answers("its bytes", written, x -> x.byteAt(2), lengths[i]);
            Edge.answers("all bytes", written, x -> x.wipe(), 3 + lengths[i]);
        }
        int[] none = {0x100, 0xFF00, 0x10000, 0x10001, 0x10100, 0x1000000, 0x1000001, 0x1000100,
            0x1000101, 0x1010000, 0x1010001, 0x1010100, 0xFF00FFFF, 0xFFFF00FF, 0xFFFFFF00, MIN};
        for (int v : none) {
            isNone(FOUR, 5, v);
        }
        Edge.writes("the first one is lowest", FOUR, 5, 0x04030201, 15, 5, 4, 1, 2, 3, 4);
    }

    private static void objectNumbers() {
        Edge.sentence("6 OBJECT (the number of one)");
        for (int v : new int[] {MIN, -1, 4, 5, 31, 32, 33, MAX}) {
            isNone(FOUR, 6, v);
        }
        isValue(6, 0);
        isValue(6, 3);
        Edge.Scene full = Edge.then(FOUR, Scenes.more(28));
        isValue(full, 6, 31, 31);
        isNone(full, 6, 32);
        Edge.Scene forgotten = x -> {
            full.set(x);
            x.clear();
            FOUR.set(x);
        };
        isValue(forgotten, 6, 3, 3);
        isNone(forgotten, 6, 4);
        isNone(forgotten, 6, 31);
    }

    private static void signs() {
        Edge.sentence("7 SIGN (any int; it can't be written)");
        for (int v : new int[] {MIN, -1, 0, 1, MAX}) {
            isValue(7, v);
            Edge.refuses("write", FOUR, x -> x.write(7, v), Edge.ARGUMENT);
        }
    }

    private static void sameValues() {
        Edge.sentence("Two values are the SAME when kind and number are.");
        int[][] pairs = {{4, 0, 5, 0}, {4, 0, 6, 0}, {4, 0, 7, 0}, {4, 0, 0, 0}, {0, 0, 1, 0},
            {4, 1, 4, 2}, {5, 1, 5, 2}, {6, 1, 6, 2}, {7, 1, 7, 2}, {4, MIN, 4, MAX}, {4, -1, 5, -1}};
        for (int[] p : pairs) {
            Edge.Scene first = Edge.then(FOUR, x -> {
                x.add(3, p[0], p[1]);
                x.entry(2, p[0], p[1], 1, 0);
            });
            Edge.answers("another one", first, x -> Edge.bool(x.add(3, p[2], p[3])), 1);
            Edge.keeps("the same", first, x -> Edge.bool(x.add(3, p[0], p[1])), 0);
            Edge.answers("another key", Edge.then(first, x -> x.entry(2, p[2], p[3], 2, 0)),
                x -> x.size(2), 2);
            Edge.answers("the same key", Edge.then(first, x -> x.entry(2, p[0], p[1], 2, 0)),
                x -> x.size(2), 1);
        }
    }

    private static void numberedFromNull() {
        Edge.sentence("OBJECTS are numbered from 0 as they are made");
        Edge.answers("the first", Edge.NEW, x -> x.make(7), 0);
        Edge.answers("the first", Edge.NEW, x -> x.buffer(0, 0), 0);
        Edge.answers("the first", Edge.NEW, x -> x.stamp(0), 0);
        Edge.answers("the second", Scenes.buffers(1), x -> x.view(0, 1, 0, 0), 1);
        Edge.answers("the last", Scenes.more(31), x -> x.stamp(0), 31);
        Edge.answers("the first after clear", Edge.then(FOUR, x -> x.clear()), x -> x.stamp(0), 0);
        Edge.Scene refused = Edge.then(FOUR, x -> Check.badArgument("no type", () -> x.make(9)));
        Edge.answers("a refused one has no number", refused, x -> x.make(0), 4);
    }

    private static void atMost32() {
        Edge.sentence("OBJECTS .. at most 32");
        for (int there = 30; there <= 32; there++) {
            int next = there;
            Edge.Scene scene = Edge.then(Scenes.buffers(1), Scenes.more(there - 1));
            Edge.Scene fed = Edge.then(scene, x -> Check.fill(x, 15, 14, 2));
            if (there < 32) {
                Edge.answers("make", scene, x -> x.make(0), next);
                Edge.answers("buffer", scene, x -> x.buffer(0, 8), next);
                Edge.answers("view", scene, x -> x.view(0, 1, 0, 1), next);
                Edge.answers("stamp", scene, x -> x.stamp(1), next);
                Edge.answers("read", fed, x -> x.read(), 6);
            } else {
                Edge.refuses("make", scene, x -> x.make(0), Edge.STATE);
                Edge.refuses("buffer", scene, x -> x.buffer(0, 8), Edge.STATE);
                Edge.refuses("view", scene, x -> x.view(0, 1, 0, 1), Edge.STATE);
                Edge.refuses("stamp", scene, x -> x.stamp(1), Edge.STATE);
                Edge.refuses("read", fed, x -> x.read(), Edge.ARGUMENT);
            }
        }
    }

    private static void properties() {
        Edge.sentence("RECORD: at most 6 PROPERTIES");
        for (int there = 4; there <= 5; there++) {
            int next = there;
            Edge.accepts("one more than " + there, Scenes.record(there), x -> x.put(0, next, 1, 0),
                Scenes.record(there + 1));
        }
        for (int key : new int[] {MIN, -1, 6, MAX}) {
            Edge.refuses("a seventh", Scenes.record(6), x -> x.put(0, key, 1, 0), Edge.STATE);
            Edge.refuses("a seventh getter", Scenes.record(6), x -> x.put(0, key, 8, 0), Edge.STATE);
        }
    }

    private static void keys() {
        Edge.sentence("each with a KEY, any int, and a value");
        for (int key : new int[] {MIN, MIN + 1, -1, 0, 1, MAX - 1, MAX}) {
            Edge.Scene put = Edge.then(Scenes.record(0), x -> x.put(0, key, 4, 3));
            Edge.objects("key " + key, put, "record(" + key + "=4.3)");
            Edge.answers("taken", put, x -> Edge.bool(x.take(0, key)), 1);
            Edge.Scene anew = Edge.then(put, x -> {
                x.write(6, 0);
                x.read();
            });
            Edge.objects("anew", anew, "record(" + key + "=4.3), record(" + key + "=4.3)");
        }
    }

    private static void gettersInRecordsAlone() {
        Edge.sentence("or as a GETTER a value 8 whose number is ACTION + 8 * ARGUMENT");
        for (int v : new int[] {MIN, -1, 0, 1, MAX}) {
            Edge.object("in a record", Edge.then(FOUR, x -> x.put(0, 2, 8, v)), 0, "record(2=8." + v + ")");
            isNone(FOUR, 8, v);
        }
        isNone(FOUR, 9, 0);
    }

    private static void order() {
        Edge.sentence("keys from 0 on by size, then those below 0 in the order in which they came");
        int[][] came = {{-1, 0}, {0, -1}, {MIN, MAX}, {1, 0}, {MAX, MAX - 1}, {-1, -2}, {-2, -1},
            {MIN, -1, 0}, {-1, 5, -9, 0, MAX, MIN}, {5, 4, 3, 2, 1, 0}, {-1, -2, -3, -4, -5, -6}};
        String[] order = {"0 -1", "0 -1", MAX + " " + MIN, "0 1", (MAX - 1) + " " + MAX, "-1 -2",
            "-2 -1", "0 " + MIN + " -1", "0 5 " + MAX + " -1 -9 " + MIN, "0 1 2 3 4 5",
            "-1 -2 -3 -4 -5 -6"};
        for (int i = 0; i < came.length; i++) {
            int[] keys = came[i];
            Edge.Scene put = Edge.then(Scenes.record(0), x -> {
                for (int key : keys) {
                    x.put(0, key, 1, 0);
                }
            });
            String want = "record(" + order[i].replace(" ", "=1.0 ") + "=1.0)";
            Edge.objects("keys", put, want);
            Edge.objects("anew", Edge.then(put, x -> {
                x.write(6, 0);
                x.read();
            }), want + ", " + want);
        }
    }

    private static void lengths() {
        Edge.sentence("LIST: a LENGTH 0 .. 8, and at each place from 0 below it a value or a HOLE");
        Edge.Scene list = x -> x.make(1);
        Edge.objects("length 0", list, "list()");
        Edge.objects("length 1", Edge.then(list, x -> x.put(0, 0, 1, 0)), "list(1.0)");
        Edge.objects("length 7", Edge.then(list, x -> x.put(0, 6, 1, 0)),
            "list(hole hole hole hole hole hole 1.0)");
        Edge.objects("length 8", Edge.then(list, x -> x.put(0, 7, 1, 0)),
            "list(hole hole hole hole hole hole hole 1.0)");
        for (int key : new int[] {MIN, -1, 8, 9, MAX}) {
            Edge.refuses("place " + key, list, x -> x.put(0, key, 1, 0), Edge.ARGUMENT);
        }
    }

    /** Map 0 with the keys NUMBER 0, 1, 2 .. */
    private static Edge.Scene map(int entries) {
        return x -> {
            x.make(2);
            for (int i = 0; i < entries; i++) {
                x.entry(0, 4, i, 1, 0);
            }
        };
    }

    private static void entries() {
        Edge.sentence("MAP: at most 4 ENTRIES in order, each a key, which is a value, no two the same");
        Edge.accepts("the third", map(2), x -> x.entry(0, 4, 2, 1, 0), map(3));
        Edge.accepts("the fourth", map(3), x -> x.entry(0, 4, 3, 1, 0), map(4));
        Edge.refuses("a fifth", map(4), x -> x.entry(0, 4, 4, 1, 0), Edge.STATE);
        Edge.refuses("a fifth", map(4), x -> x.entry(0, 5, 0, 1, 0), Edge.STATE);
        Edge.objects("in order", Edge.then(map(0), x -> {
            x.entry(0, 4, 9, 1, 0);
            x.entry(0, 4, -9, 1, 0);
            x.entry(0, 3, 0, 1, 0);
            x.entry(0, 4, 0, 1, 0);
        }), "map(4.9=1.0 4.-9=1.0 3.0=1.0 4.0=1.0)");
        Edge.objects("no two the same", Edge.then(map(4), x -> x.entry(0, 4, 0, 4, 5)),
            "map(4.0=4.5 4.1=1.0 4.2=1.0 4.3=1.0)");
    }

    /** Set 0 with NUMBER 0, 1, 2 .. */
    private static Edge.Scene set(int members) {
        return x -> {
            x.make(3);
            for (int i = 0; i < members; i++) {
                x.add(0, 4, i);
            }
        };
    }

    private static void members() {
        Edge.sentence("SET: at most 5 values in order, no two the same");
        Edge.becomes("the fourth", set(3), x -> Edge.bool(x.add(0, 4, 3)), 1, set(4));
        Edge.becomes("the fifth", set(4), x -> Edge.bool(x.add(0, 4, 4)), 1, set(5));
        Edge.refuses("a sixth", set(5), x -> x.add(0, 4, 5), Edge.STATE);
        Edge.refuses("a sixth", set(5), x -> x.add(0, 5, 0), Edge.STATE);
        Edge.keeps("no two the same", set(5), x -> Edge.bool(x.add(0, 4, 4)), 0);
        Edge.keeps("no two the same", set(1), x -> Edge.bool(x.add(0, 4, 0)), 0);
        Edge.objects("in order", Edge.then(set(0), x -> {
            x.add(0, 4, 9);
            x.add(0, 4, -9);
            x.add(0, 3, 0);
        }), "set(4.9 4.-9 3.0)");
    }

    private static void bytesOfBuffers() {
        Edge.sentence("BUFFER: 0 .. 8 BYTES (0 .. 255)");
        long w = 0x80FF7F0001020304L;
        String[] told = {"", "4", "4 3", "4 3 2", "4 3 2 1", "4 3 2 1 0", "4 3 2 1 0 127",
            "4 3 2 1 0 127 255", "4 3 2 1 0 127 255 128"};
        for (int n = 0; n <= 8; n++) {
            int count = n;
            Edge.objects(n + " bytes", x -> x.buffer(w, count), "buffer(" + told[n] + ")");
        }
        for (int n : new int[] {MIN, -1, 9, MAX}) {
            Edge.refuses(n + " bytes", FOUR, x -> x.buffer(w, n), Edge.ARGUMENT);
        }
    }

    private static void detached() {
        Edge.sentence("it may be DETACHED, and has none then");
        for (int n : new int[] {0, 1, 8}) {
            Edge.Scene scene = x -> {
                x.buffer(-1, n);
                x.detach(0);
            };
            Edge.objects("detached", scene, "detached");
            Edge.answers("its type", scene, x -> x.type(0), 4);
            Edge.answers("its size", scene, x -> x.size(0), CopiedGraphs.NONE);
            for (int what = 0; what < 3; what++) {
                int w = what;
                Edge.refuses("a byte of it", scene, x -> x.get(0, 0, w), Edge.BOUNDS);
            }
        }
    }

    private static void units() {
        Edge.sentence("VIEW: of a buffer, with a UNIT 1, 2 or 4");
        Edge.Scene scene = x -> x.buffer(-1, 8);
        for (int unit : new int[] {1, 2, 4}) {
            Edge.answers("unit " + unit, scene, x -> x.view(0, unit, 0, 1), 1);
            Edge.answers("unit " + unit, Edge.then(scene, x -> x.view(0, unit, 0, 1)),
                x -> x.get(1, 0, 1), unit);
        }
        for (int unit : new int[] {MIN, -4, -2, -1, 0, 3, 5, 6, 7, 8, 16, MAX}) {
            Edge.refuses("unit " + unit, scene, x -> x.view(0, unit, 0, 0), Edge.ARGUMENT);
            Edge.refuses("unit " + unit, scene, x -> x.view(0, unit, 0, 1), Edge.ARGUMENT);
        }
    }

    private static void froms() {
        Edge.sentence("a place FROM, a multiple of it");
        Edge.Scene scene = x -> x.buffer(-1, 8);
        for (int unit : new int[] {1, 2, 4}) {
            for (int from = -8; from <= 12; from++) {
                int f = from;
                if (from >= 0 && from <= 8 && from % unit == 0) {
                    Edge.answers("from " + from, scene, x -> x.view(0, unit, f, 0), 1);
                } else {
                    Edge.refuses("from " + from, scene, x -> x.view(0, unit, f, 0), Edge.ARGUMENT);
                }
            }
            Edge.refuses("from MIN", scene, x -> x.view(0, unit, MIN, 0), Edge.ARGUMENT);
            Edge.refuses("from MAX", scene, x -> x.view(0, unit, MAX, 0), Edge.ARGUMENT);
        }
    }

    private static void counts() {
        Edge.sentence("FROM + UNIT * COUNT was not above the buffer's bytes");
        for (int size = 0; size <= 8; size++) {
            int n = size;
            Edge.Scene scene = x -> x.buffer(-1, n);
            for (int unit : new int[] {1, 2, 4}) {
                for (int from = 0; from <= size; from += unit) {
                    int f = from;
                    int most = (size - from) / unit;
                    String what = size + " bytes, unit " + unit + ", from " + from;
                    Edge.answers(what, scene, x -> x.view(0, unit, f, 0), 1);
                    Edge.answers(what, scene, x -> x.view(0, unit, f, most), 1);
                    for (int count : new int[] {MIN, -1, most + 1, most + 2, MAX}) {
                        Edge.refuses(what + ", count " + count, scene,
                            x -> x.view(0, unit, f, count), Edge.ARGUMENT);
                    }
                }
            }
        }
        countsThatWrap();
    }

    /** FROM + UNIT * COUNT is 0 to 8 here when it is counted as an int that wraps. */
    private static void countsThatWrap() {
        int[][] wraps = {{4, 0, 1 << 30}, {4, 4, 1 << 30}, {4, 0, MIN}, {2, 0, MIN}, {2, 2, MIN},
            {4, 8, -1}, {2, 8, -4}, {1, 8, -8}, {4, 4, MAX}, {1, MAX, MAX}, {2, MAX - 1, 2},
            {4, MAX - 3, 1}, {1, MIN, MIN}, {4, 0, (1 << 30) + 1}, {2, 2, MAX}, {1, MAX, 1}};
        Edge.Scene scene = x -> x.buffer(-1, 8);
        for (int[] v : wraps) {
            Edge.refuses("it wraps", scene, x -> x.view(0, v[0], v[1], v[2]), Edge.ARGUMENT);
        }
    }

    private static void whenItWasMade() {
        Edge.sentence("when it was made, FROM + UNIT * COUNT was not above the buffer's bytes");
        Edge.Scene scene = x -> {
            x.buffer(0x0807, 2);
            x.view(0, 1, 1, 1);
        };
        Edge.objects("then", scene, "buffer(7 8), view(0 unit 1 from 1 count 1)");
        Edge.objects("and later", Edge.then(scene, x -> x.detach(0)),
            "detached, view(0 unit 1 from 1 count 1)");
        Edge.answers("its COUNT", Edge.then(scene, x -> x.detach(0)), x -> x.size(1), 1);
    }

    private static void stamps() {
        Edge.sentence("STAMP: a long");
        long[] longs = {Long.MIN_VALUE, Long.MIN_VALUE + 1, MIN - 1L, MIN, -1, 0, 1, MAX, MAX + 1L,
            Long.MAX_VALUE - 1, Long.MAX_VALUE};
        for (long v : longs) {
            Edge.objects("stamp", x -> x.stamp(v), "stamp(" + v + ")");
            Edge.objects("anew", x -> {
                x.stamp(v);
                x.write(6, 0);
                x.read();
            }, "stamp(" + v + "), stamp(" + v + ")");
        }
    }
}

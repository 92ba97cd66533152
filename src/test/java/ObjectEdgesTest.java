/** The edges in promises 1 to 15: making objects, changing them, and looking at them. */
public final class ObjectEdgesTest {
    private static final int NONE = CopiedGraphs.NONE;
    private static final int MIN = Integer.MIN_VALUE;
    private static final int MAX = Integer.MAX_VALUE;
    private static final Edge.Scene EACH = Scenes.EACH;

    /** An object of each type, as full as it can be, its number being its type. */
    private static final Edge.Scene FULL = x -> {
        Scenes.FOUR.set(x);
        x.buffer(0x1716151413121110L, 8);
        x.view(4, 1, 0, 8);
        x.stamp(Long.MIN_VALUE);
        x.make(7);
        for (int i = 0; i < 6; i++) {
            x.put(0, 10 + i, 4, 20 + i);
        }
        for (int i = 0; i < 8; i++) {
            x.put(1, i, 4, 30 + i);
        }
        for (int i = 0; i < 4; i++) {
            x.entry(2, 5, 41 + i, 4, 50 + i);
        }
        for (int i = 0; i < 5; i++) {
            x.add(3, 4, 60 + i);
        }
    };
    private static final int[] MOST = {6, 8, 4, 5, 8};

    public static void main(String[] args) {
        newObject();
        makeTypes();
        makeEmpty();
        makeFull();
        bufferBytes();
        bufferFull();
        viewOfNoBuffer();
        viewOfDetached();
        viewFull();
        stampFull();
        putInPlace();
        putKeepsItsPlace();
        putMakesLongEnough();
        putNeither();
        putListKeys();
        putSixOthers();
        takeProperty();
        takePlace();
        takeNeither();
        entryLastOrAnother();
        entryNoMap();
        entryFourOthers();
        addLast();
        addHasIt();
        addNoSet();
        addFive();
        detach();
        clear();
        objects();
        types();
        sizes();
        getParts();
        getNone();
        getWhat();
        getView();
        getStamp();
        firstInTheThrowsClause();
        throwingChangesNothing();
        throwingChangesNothingWhenAllIsFull();
        Check.end();
    }

    private static void newObject() {
        Edge.sentence("No objects, no bytes, no holders, nothing passed.");
        Edge.shows("all", Edge.NEW, "bytes[] holders 0 found 0 objects[]");
        Edge.answers("clear", Edge.NEW, x -> x.clear(), 0);
        Edge.answers("wipe", Edge.NEW, x -> x.wipe(), 0);
        Edge.answers("pass", x -> x.buffer(0, 0), x -> x.pass(0), 1);
        Edge.answers("one that was made before", x -> {
            CopiedGraphs other = new CopiedGraphs();
            FULL.set(other);
            other.pass(4);
            other.write(1, 0);
        }, x -> x.objects() + x.holders() + x.found() + x.byteAt(0), NONE);
        Edge.refuses("nothing is read", Edge.NEW, x -> x.read(), Edge.ARGUMENT);
    }

    private static void makeTypes() {
        Edge.sentence("make: IllegalArgumentException when type is another one");
        for (int type : new int[] {MIN, -1, 4, 5, 6, 8, 9, MAX}) {
            Edge.refuses("make(" + type + ")", Edge.NEW, x -> x.make(type), Edge.ARGUMENT);
            Edge.refuses("make(" + type + ")", EACH, x -> x.make(type), Edge.ARGUMENT);
        }
        for (int type : new int[] {0, 1, 2, 3, 7}) {
            Edge.answers("make(" + type + ")", EACH, x -> x.make(type), 8);
        }
    }

    private static void makeEmpty() {
        Edge.sentence("make: A new object of type 0, 1, 2, 3 or 7, empty");
        Edge.objects("all", x -> {
            for (int type : new int[] {0, 1, 2, 3, 7}) {
                x.make(type);
            }
        }, "record(), list(), map(), set(), actor");
        Edge.objects("where there were others", Edge.then(FULL, x -> {
            x.clear();
            for (int type : new int[] {3, 2, 1, 0, 7}) {
                x.make(type);
            }
        }), "set(), map(), list(), record(), actor");
    }

    private static void makeFull() {
        Edge.sentence("make: IllegalStateException when there are 32");
        for (int type : new int[] {0, 1, 2, 3, 7}) {
            Edge.answers("the 31st", Scenes.more(30), x -> x.make(type), 30);
            Edge.answers("the 32nd", Scenes.more(31), x -> x.make(type), 31);
            Edge.refuses("a 33rd", Scenes.more(32), x -> x.make(type), Edge.STATE);
        }
        for (int type : new int[] {MIN, -1, 4, 5, 6, 8, MAX}) {
            Edge.refuses("no type comes first", Scenes.more(32), x -> x.make(type), Edge.ARGUMENT);
        }
    }

    private static void bufferBytes() {
        Edge.sentence("buffer: the n lowest bytes of w, the lowest first; IllegalArgumentException when n "
            + "is not 0 .. 8");
        Edge.objects("none", x -> x.buffer(-1, 0), "buffer()");
        Edge.objects("one", x -> x.buffer(0x8180, 1), "buffer(128)");
        Edge.objects("seven", x -> x.buffer(0x8786858483828180L, 7), "buffer(128 129 130 131 132 133 134)");
        Edge.objects("eight", x -> x.buffer(0x8786858483828180L, 8),
            "buffer(128 129 130 131 132 133 134 135)");
        Edge.objects("MIN", x -> x.buffer(Long.MIN_VALUE, 8), "buffer(0 0 0 0 0 0 0 128)");
        for (int n : new int[] {MIN, -8, -1, 9, 10, 64, MAX}) {
            Edge.refuses(n + " bytes", EACH, x -> x.buffer(-1, n), Edge.ARGUMENT);
        }
    }

    private static void bufferFull() {
        Edge.sentence("buffer: IllegalStateException when there are 32");
        Edge.answers("the 31st", Scenes.more(30), x -> x.buffer(1, 8), 30);
        Edge.answers("the 32nd", Scenes.more(31), x -> x.buffer(1, 8), 31);
        Edge.refuses("a 33rd", Scenes.more(32), x -> x.buffer(1, 8), Edge.STATE);
        Edge.refuses("a 33rd of none", Scenes.more(32), x -> x.buffer(1, 0), Edge.STATE);
        Edge.refuses("n comes first", Scenes.more(32), x -> x.buffer(1, 9), Edge.ARGUMENT);
        Edge.refuses("n comes first", Scenes.more(32), x -> x.buffer(1, -1), Edge.ARGUMENT);
    }

    private static void viewOfNoBuffer() {
        Edge.sentence("view: IllegalArgumentException when b is no buffer");
        for (int b : new int[] {MIN, -1, 0, 1, 2, 3, 5, 6, 7, 8, 9, 31, 32, MAX}) {
            Edge.refuses("b is " + b, EACH, x -> x.view(b, 1, 0, 0), Edge.ARGUMENT);
        }
        Edge.answers("a buffer", EACH, x -> x.view(4, 1, 0, 0), 8);
        Edge.refuses("there are no objects", Edge.NEW, x -> x.view(0, 1, 0, 0), Edge.ARGUMENT);
        Edge.refuses("it is forgotten", Edge.then(EACH, x -> x.clear()), x -> x.view(4, 1, 0, 0),
            Edge.ARGUMENT);
        Edge.Scene last = Edge.then(Scenes.more(30), x -> x.buffer(0, 0));
        Edge.answers("the last buffer", last, x -> x.view(30, 1, 0, 0), 31);
        Edge.refuses("behind it", last, x -> x.view(31, 1, 0, 0), Edge.ARGUMENT);
    }

    private static void viewOfDetached() {
        Edge.sentence("view: IllegalArgumentException when b is .. detached");
        Edge.Scene detached = Edge.then(EACH, x -> x.detach(4));
        Edge.refuses("detached", detached, x -> x.view(4, 1, 0, 0), Edge.ARGUMENT);
        Edge.refuses("detached", detached, x -> x.view(4, 1, 0, 3), Edge.ARGUMENT);
        Edge.Scene handed = Edge.then(EACH, x -> {
            x.pass(4);
            x.write(1, 0);
        });
        Edge.refuses("handed over", handed, x -> x.view(4, 1, 0, 0), Edge.ARGUMENT);
    }

    private static void viewFull() {
        Edge.sentence("view: IllegalStateException when there are 32");
        Edge.Scene buffer = x -> x.buffer(1, 1);
        Edge.answers("the 31st", Edge.then(buffer, Scenes.more(29)), x -> x.view(0, 1, 0, 1), 30);
        Edge.answers("the 32nd", Edge.then(buffer, Scenes.more(30)), x -> x.view(0, 1, 0, 1), 31);
        Edge.Scene full = Edge.then(buffer, Scenes.more(31));
        Edge.refuses("a 33rd", full, x -> x.view(0, 1, 0, 1), Edge.STATE);
        Edge.refuses("a 33rd", full, x -> x.view(0, 4, 0, 0), Edge.STATE);
        int[][] none = {{1, 1, 0, 0}, {0, 3, 0, 0}, {0, 2, 1, 0}, {0, 1, 0, 2}, {0, 1, 0, -1},
            {32, 1, 0, 0}};
        for (int[] v : none) {
            Edge.refuses("no view comes first", full, x -> x.view(v[0], v[1], v[2], v[3]), Edge.ARGUMENT);
        }
        Edge.refuses("detached comes first", Edge.then(full, x -> x.detach(0)),
            x -> x.view(0, 1, 0, 0), Edge.ARGUMENT);
    }

    private static void stampFull() {
        Edge.sentence("stamp: IllegalStateException when there are 32");
        for (long v : new long[] {Long.MIN_VALUE, 0, Long.MAX_VALUE}) {
            Edge.answers("the 31st", Scenes.more(30), x -> x.stamp(v), 30);
            Edge.answers("the 32nd", Scenes.more(31), x -> x.stamp(v), 31);
            Edge.refuses("a 33rd", Scenes.more(32), x -> x.stamp(v), Edge.STATE);
        }
    }

    private static void putInPlace() {
        Edge.sentence("put: gets a value (8 for a getter in a record) under a key, in place of the one "
            + "that is there");
        Edge.object("the first property", Edge.then(FULL, x -> x.put(0, 10, 1, 0)), 0,
            "record(10=1.0 11=4.21 12=4.22 13=4.23 14=4.24 15=4.25)");
        Edge.object("the last property", Edge.then(FULL, x -> x.put(0, 15, 8, -1)), 0,
            "record(10=4.20 11=4.21 12=4.22 13=4.23 14=4.24 15=8.-1)");
        Edge.object("the first place", Edge.then(FULL, x -> x.put(1, 0, 1, 0)), 1,
            "list(1.0 4.31 4.32 4.33 4.34 4.35 4.36 4.37)");
        Edge.object("the last place", Edge.then(FULL, x -> x.put(1, 7, 1, 0)), 1,
            "list(4.30 4.31 4.32 4.33 4.34 4.35 4.36 1.0)");
        Edge.Scene hole = Edge.then(FULL, x -> x.take(1, 3));
        Edge.object("a hole", Edge.then(hole, x -> x.put(1, 3, 1, 0)), 1,
            "list(4.30 4.31 4.32 1.0 4.34 4.35 4.36 4.37)");
        for (int v : new int[] {MIN, 0, MAX}) {
            Edge.refuses("no getter in a list", FULL, x -> x.put(1, 0, 8, v), Edge.ARGUMENT);
        }
        Edge.accepts("a getter in place of a value", Scenes.record(1), x -> x.put(0, 0, 8, 5), x -> {
            x.make(0);
            x.put(0, 0, 8, 5);
        });
    }

    private static void putKeepsItsPlace() {
        Edge.sentence("put: (a property keeps its place in the order)");
        Edge.Scene three = x -> {
            x.make(0);
            x.put(0, -3, 1, 0);
            x.put(0, -1, 1, 0);
            x.put(0, -2, 1, 0);
        };
        Edge.objects("the first", Edge.then(three, x -> x.put(0, -3, 2, 0)), "record(-3=2.0 -1=1.0 -2=1.0)");
        Edge.objects("the second", Edge.then(three, x -> x.put(0, -1, 2, 0)), "record(-3=1.0 -1=2.0 -2=1.0)");
        Edge.objects("the last", Edge.then(three, x -> x.put(0, -2, 2, 0)), "record(-3=1.0 -1=1.0 -2=2.0)");
        Edge.objects("taken, it comes last", Edge.then(three, x -> {
            x.take(0, -3);
            x.put(0, -3, 2, 0);
        }), "record(-1=1.0 -2=1.0 -3=2.0)");
    }

    private static void putMakesLongEnough() {
        Edge.sentence("put: A list is long enough then, with holes between.");
        Edge.Scene one = x -> {
            x.make(1);
            x.put(0, 0, 4, 5);
        };
        Edge.objects("in its place", Edge.then(one, x -> x.put(0, 0, 3, 0)), "list(3.0)");
        Edge.objects("behind it", Edge.then(one, x -> x.put(0, 1, 3, 0)), "list(4.5 3.0)");
        Edge.objects("a hole between", Edge.then(one, x -> x.put(0, 2, 3, 0)), "list(4.5 hole 3.0)");
        Edge.objects("six holes between", Edge.then(one, x -> x.put(0, 7, 3, 0)),
            "list(4.5 hole hole hole hole hole hole 3.0)");
        Edge.objects("it gets no shorter", Edge.then(one, x -> {
            x.put(0, 7, 3, 0);
            x.put(0, 1, 3, 0);
        }), "list(4.5 3.0 hole hole hole hole hole 3.0)");
        Edge.objects("where another list was", Edge.then(FULL, x -> {
            x.clear();
            x.make(1);
            x.make(1);
            x.put(1, 2, 3, 0);
        }), "list(), list(hole hole 3.0)");
    }

    private static void putNeither() {
        Edge.sentence("put: IllegalArgumentException when o is neither");
        for (int o : new int[] {MIN, -1, 2, 3, 4, 5, 6, 7, 8, 31, 32, MAX}) {
            Edge.refuses("object " + o, EACH, x -> x.put(o, 0, 1, 0), Edge.ARGUMENT);
            Edge.refuses("object " + o, FULL, x -> x.put(o, 0, 1, 0), Edge.ARGUMENT);
        }
        Edge.refuses("there are no objects", Edge.NEW, x -> x.put(0, 0, 1, 0), Edge.ARGUMENT);
        Edge.accepts("a record", x -> x.make(0), x -> x.put(0, 0, 1, 0), Scenes.record(1));
    }

    private static void putListKeys() {
        Edge.sentence("put: IllegalArgumentException when .. a list's key is not 0 .. 7");
        for (int key : new int[] {MIN, -1, 8, 9, MAX}) {
            Edge.refuses("key " + key, EACH, x -> x.put(1, key, 1, 0), Edge.ARGUMENT);
            Edge.refuses("key " + key, FULL, x -> x.put(1, key, 1, 0), Edge.ARGUMENT);
            Edge.object("a record's may be", Edge.then(EACH, x -> x.put(0, key, 1, 0)), 0,
                "record(" + key + "=1.0)");
        }
        for (int key = 0; key <= 7; key++) {
            int k = key;
            Edge.answers("key " + key, Edge.then(EACH, x -> x.put(1, k, 1, 0)), x -> x.size(1), key + 1);
        }
    }

    private static void putSixOthers() {
        Edge.sentence("put: IllegalStateException when a record has 6 others");
        Edge.answers("four others", Edge.then(Scenes.record(4), x -> x.put(0, 9, 1, 0)), x -> x.size(0), 5);
        Edge.answers("five others", Edge.then(Scenes.record(5), x -> x.put(0, 9, 1, 0)), x -> x.size(0), 6);
        for (int key : new int[] {MIN, -1, 6, 9, MAX}) {
            Edge.refuses("six others", Scenes.record(6), x -> x.put(0, key, 1, 0), Edge.STATE);
            Edge.refuses("no such value comes first", Scenes.record(6), x -> x.put(0, key, 9, 0),
                Edge.ARGUMENT);
            Edge.refuses("no such value comes first", Scenes.record(6), x -> x.put(0, key, 6, 1),
                Edge.ARGUMENT);
        }
        for (int key = 0; key < 6; key++) {
            int k = key;
            Edge.answers("five others and this one", Edge.then(Scenes.record(6), x -> x.put(0, k, 2, 0)),
                x -> x.get(0, k, 1), 2);
        }
        Edge.objects("room again", Edge.then(Scenes.record(6), x -> {
            x.take(0, 0);
            x.put(0, 9, 2, 0);
        }), "record(1=1.0 2=1.0 3=1.0 4=1.0 5=1.0 9=2.0)");
    }

    private static void takeProperty() {
        Edge.sentence("take: What record o has under a key is taken away: true; false when there is none "
            + "such");
        Edge.keeps("of none", Scenes.record(0), x -> Edge.bool(x.take(0, 0)), 0);
        for (int key : new int[] {MIN, -1, 3, MAX}) {
            Edge.keeps("not this one", Scenes.record(3), x -> Edge.bool(x.take(0, key)), 0);
        }
        Edge.becomes("the last of three", Scenes.record(3), x -> Edge.bool(x.take(0, 2)), 1,
            Scenes.record(2));
        Edge.becomes("the only one", Scenes.record(1), x -> Edge.bool(x.take(0, 0)), 1, Scenes.record(0));
        Edge.objects("the first", Edge.then(Scenes.record(3), x -> x.take(0, 0)), "record(1=1.0 2=1.0)");
        Edge.objects("one between", Edge.then(Scenes.record(3), x -> x.take(0, 1)), "record(0=1.0 2=1.0)");
        Edge.keeps("it was taken", Edge.then(Scenes.record(3), x -> x.take(0, 1)),
            x -> Edge.bool(x.take(0, 1)), 0);
        Edge.becomes("a getter", Edge.then(Scenes.record(1), x -> x.put(0, 5, 8, 1)),
            x -> Edge.bool(x.take(0, 5)), 1, Scenes.record(1));
        for (int key = 10; key < 16; key++) {
            int k = key;
            Edge.answers("of six", FULL, x -> Edge.bool(x.take(0, k)), 1);
        }
        Edge.keeps("below them", FULL, x -> Edge.bool(x.take(0, 9)), 0);
        Edge.keeps("above them", FULL, x -> Edge.bool(x.take(0, 16)), 0);
    }

    private static void takePlace() {
        Edge.sentence("take: or at that place of list o there is a hole: true; false when there is none "
            + "such");
        Edge.Scene three = x -> {
            x.make(1);
            x.put(0, 0, 4, 1);
            x.put(0, 2, 4, 3);
        };
        Edge.answers("the first", three, x -> Edge.bool(x.take(0, 0)), 1);
        Edge.objects("the first", Edge.then(three, x -> x.take(0, 0)), "list(hole hole 4.3)");
        Edge.answers("the last", three, x -> Edge.bool(x.take(0, 2)), 1);
        Edge.objects("the last, it gets no shorter", Edge.then(three, x -> x.take(0, 2)),
            "list(4.1 hole hole)");
        Edge.keeps("a hole already: there is such a place", three, x -> Edge.bool(x.take(0, 1)), 1);
        for (int key : new int[] {MIN, -1, 3, 7, 8, MAX}) {
            Edge.keeps("no such place", three, x -> Edge.bool(x.take(0, key)), 0);
        }
        Edge.keeps("of none", x -> x.make(1), x -> Edge.bool(x.take(0, 0)), 0);
        Edge.answers("the last of eight", FULL, x -> Edge.bool(x.take(1, 7)), 1);
        Edge.keeps("behind it", FULL, x -> Edge.bool(x.take(1, 8)), 0);
    }

    private static void takeNeither() {
        Edge.sentence("take: IllegalArgumentException when o is neither");
        for (int o : new int[] {MIN, -1, 2, 3, 4, 5, 6, 7, 8, 31, 32, MAX}) {
            Edge.refuses("object " + o, FULL, x -> x.take(o, 0), Edge.ARGUMENT);
            Edge.refuses("object " + o, EACH, x -> x.take(o, 0), Edge.ARGUMENT);
        }
        Edge.refuses("there are no objects", Edge.NEW, x -> x.take(0, 0), Edge.ARGUMENT);
    }

    private static void entryLastOrAnother() {
        Edge.sentence("entry: Map o gets an entry, the last one, or an entry with this key another value.");
        Edge.Scene two = x -> {
            x.make(2);
            x.entry(0, 4, 9, 1, 0);
            x.entry(0, 4, 1, 1, 0);
        };
        Edge.objects("the last one", Edge.then(two, x -> x.entry(0, 4, 5, 2, 0)),
            "map(4.9=1.0 4.1=1.0 4.5=2.0)");
        Edge.objects("the first key", Edge.then(two, x -> x.entry(0, 4, 9, 2, 0)), "map(4.9=2.0 4.1=1.0)");
        Edge.objects("the last key", Edge.then(two, x -> x.entry(0, 4, 1, 2, 0)), "map(4.9=1.0 4.1=2.0)");
        Edge.objects("itself", Edge.then(two, x -> x.entry(0, 6, 0, 6, 0)),
            "map(4.9=1.0 4.1=1.0 6.0=6.0)");
    }

    private static void entryNoMap() {
        Edge.sentence("entry: IllegalArgumentException when o is no map, or there is no such key or value");
        for (int o : new int[] {MIN, -1, 0, 1, 3, 4, 5, 6, 7, 8, 31, 32, MAX}) {
            Edge.refuses("object " + o, EACH, x -> x.entry(o, 1, 0, 1, 0), Edge.ARGUMENT);
        }
        int[][] none = {{-1, 0}, {8, 0}, {MIN, 0}, {MAX, 0}, {5, 0x100}, {6, -1}, {6, 8}};
        for (int[] v : none) {
            Edge.refuses("no such key", EACH, x -> x.entry(2, v[0], v[1], 1, 0), Edge.ARGUMENT);
            Edge.refuses("no such value", EACH, x -> x.entry(2, 1, 0, v[0], v[1]), Edge.ARGUMENT);
            Edge.refuses("no such value for a key that is there", FULL,
                x -> x.entry(2, 5, 41, v[0], v[1]), Edge.ARGUMENT);
            Edge.refuses("no such key comes first", FULL, x -> x.entry(2, v[0], v[1], 1, 0),
                Edge.ARGUMENT);
            Edge.refuses("no such value comes first", FULL, x -> x.entry(2, 1, 0, v[0], v[1]),
                Edge.ARGUMENT);
        }
    }

    private static void entryFourOthers() {
        Edge.sentence("entry: IllegalStateException when it has 4 others");
        for (int kind = 0; kind <= 7; kind++) {
            int k = kind;
            Edge.refuses("four others", FULL, x -> x.entry(2, k, 0, 1, 0), Edge.STATE);
        }
        for (int i = 0; i < 4; i++) {
            int at = i;
            Edge.Scene again = Edge.then(FULL, x -> x.entry(2, 5, 41 + at, 3, 7));
            Edge.answers("three others and this one", again, x -> x.get(2, at, 1), 3);
            Edge.answers("four stay four", again, x -> x.size(2), 4);
        }
    }

    private static void addLast() {
        Edge.sentence("add: Set o gets a value, the last one: true");
        Edge.Scene two = x -> {
            x.make(3);
            x.add(0, 4, 9);
            x.add(0, 4, 1);
        };
        Edge.answers("another", two, x -> Edge.bool(x.add(0, 4, 5)), 1);
        Edge.objects("the last one", Edge.then(two, x -> x.add(0, 4, 5)), "set(4.9 4.1 4.5)");
        Edge.answers("the first of all", x -> x.make(3), x -> Edge.bool(x.add(0, 0, 0)), 1);
        Edge.answers("itself", two, x -> Edge.bool(x.add(0, 6, 0)), 1);
    }

    private static void addHasIt() {
        Edge.sentence("add: false when it has it");
        for (int i = 0; i < 5; i++) {
            int v = 60 + i;
            Edge.keeps("one of five", FULL, x -> Edge.bool(x.add(3, 4, v)), 0);
        }
        Edge.Scene itself = Edge.then(EACH, x -> x.add(3, 6, 3));
        Edge.keeps("itself", itself, x -> Edge.bool(x.add(3, 6, 3)), 0);
    }

    private static void addNoSet() {
        Edge.sentence("add: IllegalArgumentException when o is no set, or there is no such value");
        for (int o : new int[] {MIN, -1, 0, 1, 2, 4, 5, 6, 7, 8, 31, 32, MAX}) {
            Edge.refuses("object " + o, EACH, x -> x.add(o, 1, 0), Edge.ARGUMENT);
        }
        int[][] none = {{-1, 0}, {8, 0}, {MIN, 0}, {MAX, 0}, {5, 0x100}, {6, -1}, {6, 8}};
        for (int[] v : none) {
            Edge.refuses("no such value", EACH, x -> x.add(3, v[0], v[1]), Edge.ARGUMENT);
            Edge.refuses("no such value comes first", FULL, x -> x.add(3, v[0], v[1]), Edge.ARGUMENT);
        }
    }

    private static void addFive() {
        Edge.sentence("add: IllegalStateException when it has 5 and not this one");
        for (int kind = 0; kind <= 7; kind++) {
            int k = kind;
            Edge.refuses("five others", FULL, x -> x.add(3, k, 0), Edge.STATE);
        }
        Edge.Scene four = Edge.then(EACH, x -> {
            for (int i = 0; i < 4; i++) {
                x.add(3, 4, i);
            }
        });
        Edge.answers("four others", four, x -> Edge.bool(x.add(3, 4, 4)), 1);
    }

    private static void detach() {
        Edge.sentence("detach: A buffer is detached: true; false when o is no buffer, or was.");
        for (int o : new int[] {MIN, -1, 0, 1, 2, 3, 5, 6, 7, 8, 31, 32, MAX}) {
            Edge.keeps("object " + o, FULL, x -> Edge.bool(x.detach(o)), 0);
        }
        Edge.answers("a buffer", FULL, x -> Edge.bool(x.detach(4)), 1);
        Edge.object("it is", Edge.then(FULL, x -> x.detach(4)), 4, "detached");
        Edge.keeps("it was", Edge.then(FULL, x -> x.detach(4)), x -> Edge.bool(x.detach(4)), 0);
        Edge.answers("one without bytes", x -> x.buffer(1, 0), x -> Edge.bool(x.detach(0)), 1);
        Edge.Scene handed = Edge.then(FULL, x -> {
            x.pass(4);
            x.write(1, 0);
        });
        Edge.keeps("handed over", handed, x -> Edge.bool(x.detach(4)), 0);
        Edge.answers("read anew", Edge.then(handed, x -> x.read()), x -> Edge.bool(x.detach(8)), 1);
        Edge.Scene last = Edge.then(Scenes.more(31), x -> x.buffer(1, 1));
        Edge.answers("the last of 32", last, x -> Edge.bool(x.detach(31)), 1);
    }

    private static void clear() {
        Edge.sentence("clear: All objects, holders and passed ones are forgotten: how many objects there "
            + "were. (The bytes stay.)");
        Edge.keeps("of none", Edge.NEW, x -> x.clear(), 0);
        Edge.becomes("of one", Scenes.more(1), x -> x.clear(), 1, Edge.NEW);
        Edge.becomes("of 31", Scenes.more(31), x -> x.clear(), 31, Edge.NEW);
        Edge.becomes("of 32", Scenes.more(32), x -> x.clear(), 32, Edge.NEW);
        Edge.Scene all = Edge.then(FULL, x -> {
            x.pass(4);
            x.write(4, 5);
            x.read();
            x.pass(8);
            x.write(4, 6);
            x.pass(0);
            x.pass(1);
        });
        Edge.shows("before", all, "bytes[15 4 12] holders 1 found 5 objects[record(10=4.20 11=4.21 12=4.22 "
            + "13=4.23 14=4.24 15=4.25), list(4.30 4.31 4.32 4.33 4.34 4.35 4.36 4.37), map(5.41=4.50 "
            + "5.42=4.51 5.43=4.52 5.44=4.53), set(4.60 4.61 4.62 4.63 4.64), detached, "
            + "view(4 unit 1 from 0 count 8), stamp(" + Long.MIN_VALUE + "), actor, detached]");
        Edge.becomes("of all sorts", all, x -> x.clear(), 9, x -> {
            Check.fill(x, 15, 4, 10);
            x.read();
            Check.fill(x, 15, 4, 12);
        });
        Edge.answers("once more", Edge.then(all, x -> x.clear()), x -> x.clear(), 0);
        Edge.answers("nothing is passed", Edge.then(all, x -> {
            x.clear();
            x.make(0);
        }), x -> x.pass(0), 1);
    }

    private static void objects() {
        Edge.sentence("objects: How many objects there are.");
        for (int count : new int[] {0, 1, 31, 32}) {
            Edge.keeps("objects", Scenes.more(count), x -> x.objects(), count);
        }
        Edge.answers("a refused one does not count", Edge.then(Scenes.more(32),
            x -> Check.badState("a 33rd", () -> x.make(0))), x -> x.objects(), 32);
    }

    private static void types() {
        Edge.sentence("type: The type of an object; NONE when there is none such.");
        for (int o = 0; o < 8; o++) {
            int object = o;
            Edge.keeps("type " + o, FULL, x -> x.type(object), o);
        }
        for (int o : new int[] {MIN, -1, 8, 9, 31, 32, 33, MAX}) {
            Edge.keeps("no object " + o, FULL, x -> x.type(o), NONE);
        }
        Edge.answers("of none", Edge.NEW, x -> x.type(0), NONE);
        Edge.answers("forgotten", Edge.then(FULL, x -> x.clear()), x -> x.type(0), NONE);
        Edge.answers("the last of 32", Scenes.more(32), x -> x.type(31), 0);
        Edge.answers("behind it", Scenes.more(32), x -> x.type(32), NONE);
        Edge.answers("detached", Edge.then(FULL, x -> x.detach(4)), x -> x.type(4), 4);
    }

    private static void sizes() {
        Edge.sentence("size: How many properties, places, entries, values or bytes an object has, a view's "
            + "COUNT; NONE for a detached buffer, a stamp, an actor and no object.");
        int[] few = {0, 0, 0, 0, 3, 1, NONE, NONE};
        int[] most = {6, 8, 4, 5, 8, 8, NONE, NONE};
        for (int o = 0; o < 8; o++) {
            int object = o;
            Edge.keeps("few", EACH, x -> x.size(object), few[o]);
            Edge.keeps("most", FULL, x -> x.size(object), most[o]);
        }
        for (int o : new int[] {MIN, -1, 8, 9, 31, 32, 33, MAX}) {
            Edge.keeps("no object " + o, FULL, x -> x.size(o), NONE);
        }
        Edge.answers("no bytes", x -> x.buffer(0, 0), x -> x.size(0), 0);
        Edge.answers("detached", Edge.then(EACH, x -> x.detach(4)), x -> x.size(4), NONE);
        Edge.answers("its view's COUNT", Edge.then(EACH, x -> x.detach(4)), x -> x.size(5), 1);
        Edge.answers("a COUNT of 0", Edge.then(EACH, x -> x.view(4, 1, 3, 0)), x -> x.size(8), 0);
        Edge.answers("a list of holes", x -> {
            x.make(1);
            x.put(0, 7, 1, 0);
            x.take(0, 7);
        }, x -> x.size(0), 8);
    }

    private static void getParts() {
        Edge.sentence("get: Of property, place, entry, value or byte k: for what = 0 its key (for a map's "
            + "the key's number; otherwise k), 1 the kind of its value, 2 its number, 3 the kind of a "
            + "map's key");
        int[] keys = {10, 0, 41, 0, 0};
        int[] numbers = {20, 30, 50, 60, 16};
        for (int o = 0; o < 5; o++) {
            int object = o;
            for (int part : new int[] {0, MOST[o] - 1}) {
                Edge.keeps("key", FULL, x -> x.get(object, part, 0), keys[o] + part);
                Edge.keeps("kind", FULL, x -> x.get(object, part, 1), 4);
                Edge.keeps("number", FULL, x -> x.get(object, part, 2), numbers[o] + part);
            }
        }
        Edge.keeps("the kind of a map's key", FULL, x -> x.get(2, 0, 3), 5);
        Edge.keeps("the kind of a map's key", FULL, x -> x.get(2, 3, 3), 5);
        Edge.Scene hole = x -> {
            x.make(1);
            x.put(0, 1, 4, 9);
        };
        Edge.keeps("a hole's key", hole, x -> x.get(0, 0, 0), 0);
        Edge.keeps("a hole's kind", hole, x -> x.get(0, 0, 1), NONE);
        Edge.keeps("a hole's number", hole, x -> x.get(0, 0, 2), 0);
        Edge.Scene taken = Edge.then(hole, x -> x.take(0, 1));
        Edge.keeps("a hole's number", taken, x -> x.get(0, 1, 2), 0);
        Edge.keeps("a getter's kind", Edge.then(FULL, x -> x.put(0, 10, 8, MIN)), x -> x.get(0, 0, 1), 8);
        Edge.keeps("its number", Edge.then(FULL, x -> x.put(0, 10, 8, MIN)), x -> x.get(0, 0, 2), MIN);
        Edge.keeps("a byte", x -> x.buffer(-1, 8), x -> x.get(0, 7, 2), 255);
    }

    private static void getNone() {
        Edge.sentence("get: IndexOutOfBoundsException when there is none such");
        for (int o = 0; o < 5; o++) {
            int object = o;
            for (int what = 0; what <= 2; what++) {
                int w = what;
                for (int k : new int[] {MIN, -1, MOST[o], MOST[o] + 1, 8, 9, MAX}) {
                    Edge.refuses("part " + k, FULL, x -> x.get(object, k, w), Edge.BOUNDS);
                }
                if (o < 4) {
                    Edge.refuses("of none", EACH, x -> x.get(object, 0, w), Edge.BOUNDS);
                }
            }
        }
        for (int o : new int[] {MIN, -1, 8, 31, 32, MAX}) {
            Edge.refuses("no object " + o, FULL, x -> x.get(o, 0, 0), Edge.BOUNDS);
        }
        for (int what = 0; what <= 3; what++) {
            int w = what;
            Edge.refuses("an actor", FULL, x -> x.get(7, 0, w), Edge.BOUNDS);
            Edge.refuses("a detached buffer", Edge.then(FULL, x -> x.detach(4)), x -> x.get(4, 0, w),
                Edge.BOUNDS);
            Edge.refuses("a forgotten one", Edge.then(FULL, x -> x.clear()), x -> x.get(2, 0, w),
                Edge.BOUNDS);
            Edge.refuses("a buffer without bytes", x -> x.buffer(-1, 0), x -> x.get(0, 0, w), Edge.BOUNDS);
        }
        Edge.refuses("what was taken", Edge.then(FULL, x -> x.take(0, 10)), x -> x.get(0, 5, 0),
            Edge.BOUNDS);
    }

    private static void getWhat() {
        Edge.sentence("get: (what = 3 for others than maps and views, too)");
        for (int o = 0; o < 8; o++) {
            int object = o;
            for (int what : new int[] {MIN, -1, 4, 5, MAX}) {
                Edge.refuses("what = " + what, FULL, x -> x.get(object, 0, what), Edge.BOUNDS);
            }
            if (o != 2 && o != 5) {
                Edge.refuses("what = 3, type " + o, FULL, x -> x.get(object, 0, 3), Edge.BOUNDS);
            }
        }
        Edge.answers("a map", FULL, x -> x.get(2, 0, 3), 5);
        Edge.answers("a view", FULL, x -> x.get(5, 0, 3), 8);
    }

    private static void getView() {
        Edge.sentence("get: Of a view, with k = 0, for what = 0 its buffer's number, 1 UNIT, 2 FROM, 3 COUNT");
        Edge.Scene view = x -> {
            x.make(7);
            x.buffer(0, 8);
            x.view(1, 2, 4, 2);
        };
        int[] told = {1, 2, 4, 2};
        for (int what = 0; what <= 3; what++) {
            int w = what;
            Edge.keeps("what = " + what, view, x -> x.get(2, 0, w), told[what]);
            Edge.answers("its buffer is detached", Edge.then(view, x -> x.detach(1)),
                x -> x.get(2, 0, w), told[what]);
            for (int k : new int[] {MIN, -1, 1, 2, MAX}) {
                Edge.refuses("k = " + k, view, x -> x.get(2, k, w), Edge.BOUNDS);
            }
        }
        Edge.refuses("what = 4", view, x -> x.get(2, 0, 4), Edge.BOUNDS);
        Edge.refuses("what = -1", view, x -> x.get(2, 0, -1), Edge.BOUNDS);
        Edge.answers("a COUNT of 0", Edge.then(view, x -> x.view(1, 4, 8, 0)), x -> x.get(3, 0, 3), 0);
    }

    private static void getStamp() {
        Edge.sentence("get: of a stamp, with k = 0 and what = 0, the long");
        for (long v : new long[] {Long.MIN_VALUE, MIN - 1L, -1, 0, 1, MAX + 1L, Long.MAX_VALUE}) {
            Edge.keeps("the long", x -> x.stamp(v), x -> x.get(0, 0, 0), v);
        }
        for (int what : new int[] {MIN, -1, 1, 2, 3, MAX}) {
            Edge.refuses("what = " + what, x -> x.stamp(5), x -> x.get(0, 0, what), Edge.BOUNDS);
        }
        for (int k : new int[] {MIN, -1, 1, MAX}) {
            Edge.refuses("k = " + k, x -> x.stamp(5), x -> x.get(0, k, 0), Edge.BOUNDS);
        }
    }

    private static void firstInTheThrowsClause() {
        Edge.sentence("Of several exceptions the one that stands first in the throws clause is thrown.");
        Edge.Scene full = Edge.then(FULL, Scenes.more(24));
        Edge.refuses("make", full, x -> x.make(0), Edge.STATE);
        Edge.refuses("make, both", full, x -> x.make(4), Edge.ARGUMENT);
        Edge.refuses("buffer", full, x -> x.buffer(0, 0), Edge.STATE);
        Edge.refuses("buffer, both", full, x -> x.buffer(0, 9), Edge.ARGUMENT);
        Edge.refuses("view", full, x -> x.view(4, 1, 0, 8), Edge.STATE);
        Edge.refuses("view, both", full, x -> x.view(4, 1, 0, 9), Edge.ARGUMENT);
        Edge.refuses("put", full, x -> x.put(0, 0, 8, 0), Edge.STATE);
        Edge.refuses("put, both", full, x -> x.put(0, 0, 9, 0), Edge.ARGUMENT);
        Edge.refuses("entry", full, x -> x.entry(2, 7, 0, 7, 0), Edge.STATE);
        Edge.refuses("entry, both, by its key", full, x -> x.entry(2, 8, 0, 7, 0), Edge.ARGUMENT);
        Edge.refuses("entry, both, by its value", full, x -> x.entry(2, 7, 0, 8, 0), Edge.ARGUMENT);
        Edge.refuses("add", full, x -> x.add(3, 7, 0), Edge.STATE);
        Edge.refuses("add, both", full, x -> x.add(3, 8, 0), Edge.ARGUMENT);
        Edge.Scene passed = Edge.then(full, x -> {
            for (int i = 0; i < 4; i++) {
                x.pass(31);
            }
        });
        Edge.refuses("pass", passed, x -> x.pass(31), Edge.STATE);
        Edge.refuses("pass, both", passed, x -> x.pass(32), Edge.ARGUMENT);
    }

    /** Something of everything: a holder, two passed ones, bytes that are wrong, and 5 was found. */
    private static final Edge.Scene RICH = Edge.then(FULL, x -> {
        x.pass(4);
        x.write(4, 5);
        x.read();
        x.pass(8);
        x.write(6, 8);
        x.feed(1, 1);
        x.pass(0);
        x.pass(1);
    });

    private static void throwingChangesNothing() {
        Edge.sentence("A call that throws changes nothing, but where it is said.");
        Edge.answers("a holder", RICH, x -> x.holders(), 1);
        Edge.answers("two are passed", RICH, x -> x.pass(2), 3);
        Edge.answers("found", RICH, x -> x.found(), 5);
        Edge.bytes("bytes", RICH, 15, 7, 0, 1);
        Edge.refuses("make", RICH, x -> x.make(6), Edge.ARGUMENT);
        Edge.refuses("buffer", RICH, x -> x.buffer(-1, 9), Edge.ARGUMENT);
        Edge.refuses("view", RICH, x -> x.view(4, 1, 0, 0), Edge.ARGUMENT);
        Edge.refuses("put, no value", RICH, x -> x.put(0, 10, 9, 0), Edge.ARGUMENT);
        Edge.refuses("put, no key", RICH, x -> x.put(1, 8, 1, 0), Edge.ARGUMENT);
        Edge.refuses("put, six others", RICH, x -> x.put(0, 9, 1, 0), Edge.STATE);
        Edge.refuses("take", RICH, x -> x.take(2, 41), Edge.ARGUMENT);
        Edge.refuses("entry, no value", RICH, x -> x.entry(2, 5, 41, 8, 0), Edge.ARGUMENT);
        Edge.refuses("entry, four others", RICH, x -> x.entry(2, 5, 40, 1, 0), Edge.STATE);
        Edge.refuses("add, no value", RICH, x -> x.add(3, 8, 60), Edge.ARGUMENT);
        Edge.refuses("add, five others", RICH, x -> x.add(3, 4, 59), Edge.STATE);
        Edge.refuses("get", RICH, x -> x.get(0, 6, 0), Edge.BOUNDS);
        Edge.refuses("pass", RICH, x -> x.pass(9), Edge.ARGUMENT);
        Edge.refuses("read", RICH, x -> x.read(), Edge.ARGUMENT);
        Edge.Scene four = Edge.then(RICH, x -> {
            x.pass(2);
            x.pass(3);
        });
        Edge.refuses("pass, a fifth", four, x -> x.pass(4), Edge.STATE);
        Edge.Scene unpassed = Edge.then(FULL, x -> {
            x.pass(4);
            x.write(4, 5);
            x.read();
            x.pass(8);
            x.write(6, 8);
            x.feed(1, 1);
        });
        Edge.breaks("write: nothing is passed then", RICH, x -> x.write(1, 0), Edge.ARGUMENT, unpassed);
    }

    private static void throwingChangesNothingWhenAllIsFull() {
        Edge.sentence("A call that throws changes nothing: when there are 32 objects");
        Edge.Scene full = Edge.then(RICH, Scenes.more(23));
        Edge.answers("32", full, x -> x.objects(), 32);
        Edge.refuses("make", full, x -> x.make(0), Edge.STATE);
        Edge.refuses("buffer", full, x -> x.buffer(-1, 8), Edge.STATE);
        Edge.refuses("stamp", full, x -> x.stamp(-1), Edge.STATE);
        Edge.refuses("read", Edge.then(full, x -> Check.fill(x, 15, 1)), x -> x.read(), Edge.ARGUMENT);
        Edge.Scene buffer = Edge.then(RICH, x -> {
            Scenes.more(22).set(x);
            x.buffer(1, 1);
        });
        Edge.refuses("view", buffer, x -> x.view(31, 1, 0, 1), Edge.STATE);
    }
}

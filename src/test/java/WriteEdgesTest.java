/** The edges in the document's term WRITING, and of what is impossible to write. */
public final class WriteEdgesTest {
    private static final int NONE = CopiedGraphs.NONE;
    private static final int MIN = Integer.MIN_VALUE;
    private static final int MAX = Integer.MAX_VALUE;

    public static void main(String[] args) {
        plainKinds();
        zigzags();
        lengthyNumbers();
        lengthyLongs();
        texts();
        placesInTheRow();
        handedPlaces();
        nextPlaces();
        lists();
        maps();
        sets();
        buffers();
        views();
        depthTwelve();
        depthIsCountedFromOne();
        sharedAtDepthThirteen();
        signs();
        actors();
        detachedBuffers();
        moreThan300();
        nothingMoreIsDone();
        gettersAtTheLimit();
        gettersAtDepthTwelve();
        Check.end();
    }

    /** It is refused, and what there is stays, the bytes too. */
    private static void impossible(String what, Edge.Scene scene, int kind, int v) {
        Edge.refuses(what, Edge.then(scene, x -> Check.fill(x, 15, 4, 10)), x -> x.write(kind, v),
            Edge.ARGUMENT);
    }

    private static void plainKinds() {
        Edge.sentence("15, and then the value at DEPTH 1: 0 .. 3 for UNDEFINED .. TRUE");
        for (int kind = 0; kind <= 3; kind++) {
            Edge.writes("kind " + kind, Edge.NEW, kind, 0, 15, kind);
        }
        Edge.writes("a number", Edge.NEW, 4, 0, 15, 4, 0);
    }

    private static void zigzags() {
        Edge.sentence("the ZIGZAG of a NUMBER (2n for n from 0 on, -2n - 1 below)");
        Edge.writes("0", Edge.NEW, 4, 0, 15, 4, 0);
        Edge.writes("-1", Edge.NEW, 4, -1, 15, 4, 1);
        Edge.writes("1", Edge.NEW, 4, 1, 15, 4, 2);
        Edge.writes("-2", Edge.NEW, 4, -2, 15, 4, 3);
        Edge.writes("MAX - 1", Edge.NEW, 4, MAX - 1, 15, 4, 252, 255, 255, 255, 15);
        Edge.writes("MAX", Edge.NEW, 4, MAX, 15, 4, 254, 255, 255, 255, 15);
        Edge.writes("MIN + 1", Edge.NEW, 4, MIN + 1, 15, 4, 253, 255, 255, 255, 15);
        Edge.writes("MIN", Edge.NEW, 4, MIN, 15, 4, 255, 255, 255, 255, 15);
    }

    /** The lengthy number's bytes behind others. */
    private static int[] lengthy(long zigzag, int... front) {
        int count = 1;
        for (long left = zigzag >>> 7; left != 0; left >>>= 7) {
            count++;
        }
        int[] bytes = java.util.Arrays.copyOf(front, front.length + count);
        for (int i = 0; i < count; i++) {
            int more = i + 1 < count ? 128 : 0;
            bytes[front.length + i] = (int) (zigzag >>> (7 * i) & 127) + more;
        }
        return bytes;
    }

    private static void lengthyNumbers() {
        Edge.sentence("seven bits in each byte, the lowest first, and 128 more in all bytes but the last");
        Edge.writes("63", Edge.NEW, 4, 63, 15, 4, 126);
        Edge.writes("-64", Edge.NEW, 4, -64, 15, 4, 127);
        Edge.writes("64", Edge.NEW, 4, 64, 15, 4, 128, 1);
        Edge.writes("-65", Edge.NEW, 4, -65, 15, 4, 129, 1);
        Edge.sentence("it has no more bytes than it needs");
        for (int bits = 7; bits <= 28; bits += 7) {
            int edge = 1 << (bits - 1);
            int bytes = bits / 7;
            Edge.answers("below", Edge.NEW, x -> x.write(4, edge - 1), 2 + bytes);
            Edge.answers("below", Edge.NEW, x -> x.write(4, -edge), 2 + bytes);
            Edge.answers("at it", Edge.NEW, x -> x.write(4, edge), 3 + bytes);
            Edge.answers("at it", Edge.NEW, x -> x.write(4, -edge - 1), 3 + bytes);
            Edge.writes("below", Edge.NEW, 4, edge - 1, lengthy(2L * edge - 2, 15, 4));
            Edge.writes("below", Edge.NEW, 4, -edge, lengthy(2L * edge - 1, 15, 4));
            Edge.writes("at it", Edge.NEW, 4, edge, lengthy(2L * edge, 15, 4));
            Edge.writes("at it", Edge.NEW, 4, -edge - 1, lengthy(2L * edge + 1, 15, 4));
            Edge.Scene record = x -> {
                x.make(0);
                x.put(0, edge, 1, 0);
            };
            Edge.answers("a key", record, x -> x.write(6, 0), 6 + bytes);
        }
    }

    private static void lengthyLongs() {
        Edge.sentence("STAMP: 14 and the zigzag of it");
        for (int bits = 7; bits <= 63; bits += 7) {
            long edge = 1L << (bits - 1);
            Edge.writes("below", x -> x.stamp(edge - 1), 6, 0, lengthy(2 * edge - 2, 15, 14));
            Edge.writes("below", x -> x.stamp(-edge), 6, 0, lengthy(2 * edge - 1, 15, 14));
            Edge.writes("at it", x -> x.stamp(edge), 6, 0, lengthy(2 * edge, 15, 14));
            Edge.writes("at it", x -> x.stamp(-edge - 1), 6, 0, lengthy(2 * edge + 1, 15, 14));
            Edge.answers("its bytes", x -> x.stamp(edge - 1), x -> x.write(6, 0), 2 + bits / 7);
            Edge.answers("its bytes", x -> x.stamp(edge), x -> x.write(6, 0), 3 + bits / 7);
        }
        Edge.writes("0", x -> x.stamp(0), 6, 0, 15, 14, 0);
        Edge.writes("MAX", x -> x.stamp(Long.MAX_VALUE), 6, 0, lengthy(-2, 15, 14));
        Edge.writes("MIN", x -> x.stamp(Long.MIN_VALUE), 6, 0, lengthy(-1, 15, 14));
        Edge.answers("ten bytes", x -> x.stamp(Long.MIN_VALUE), x -> x.write(6, 0), 12);
    }

    private static void texts() {
        Edge.sentence("5, how many bytes a TEXT has, and these");
        Edge.writes("none", Edge.NEW, 5, 0, 15, 5, 0);
        Edge.writes("one", Edge.NEW, 5, 255, 15, 5, 1, 255);
        Edge.writes("three", Edge.NEW, 5, 0x808182, 15, 5, 3, 0x82, 0x81, 0x80);
        Edge.writes("four", Edge.NEW, 5, 0x80010203, 15, 5, 4, 3, 2, 1, 0x80);
    }

    private static void placesInTheRow() {
        Edge.sentence("for an OBJECT that has a PLACE IN THE ROW of those written 6 and that place");
        Edge.Scene self = x -> {
            x.make(1);
            x.put(0, 0, 6, 0);
        };
        Edge.writes("place 0", self, 6, 0, 15, 9, 1, 1, 6, 0);
        Edge.Scene full = x -> {
            x.make(1);
            for (int i = 0; i < 4; i++) {
                int list = x.make(1);
                x.put(0, i, 6, list);
                for (int k = 0; k < (i == 0 ? 3 : 8); k++) {
                    x.put(list, k, 6, x.stamp(k));
                }
            }
            x.put(0, 4, 6, 31);
            x.put(0, 5, 6, 30);
        };
        Edge.answers("32 objects", full, x -> x.objects(), 32);
        Edge.Scene written = Edge.then(full, x -> x.write(6, 0));
        Edge.answers("all its bytes", written, x -> x.wipe(), 3 + 4 * 3 + 27 * 3 + 6);
        int[] tail = {1, 6, 31, 1, 6, 30, NONE};
        for (int i = 0; i < tail.length; i++) {
            int k = 96 + i;
            Edge.answers("the last places", written, x -> x.byteAt(k), tail[i]);
        }
    }

    private static void handedPlaces() {
        Edge.sentence("for one that is to be handed over 7 and its place among these");
        Edge.Scene scene = Edge.then(Scenes.buffers(5), x -> {
            x.make(1);
            for (int o = 0; o < 5; o++) {
                x.put(5, o, 6, o);
            }
            x.put(5, 5, 6, 3);
        });
        Edge.writes("none", scene, 6, 5, 15, 9, 6, 1, 12, 1, 1, 1, 12, 1, 2, 1, 12, 1, 3, 1, 12, 1, 4,
            1, 12, 1, 5, 1, 6, 4);
        Edge.writes("one", Edge.then(scene, x -> x.pass(3)), 6, 5, 15, 9, 6, 1, 12, 1, 1, 1, 12, 1, 2,
            1, 12, 1, 3, 1, 7, 0, 1, 12, 1, 5, 1, 7, 0);
        Edge.writes("four, places 0 to 3", Edge.then(scene, x -> {
            x.pass(4);
            x.pass(0);
            x.pass(1);
            x.pass(3);
        }), 6, 5, 15, 9, 6, 1, 7, 1, 1, 7, 2, 1, 12, 1, 3, 1, 7, 3, 1, 7, 0, 1, 7, 3);
        Edge.writes("itself", Edge.then(scene, x -> x.pass(0)), 6, 0, 15, 7, 0);
    }

    private static void nextPlaces() {
        Edge.sentence("Objects get the next place in the row (from 0) as they begin, but a view "
            + "behind its buffer.");
        Edge.Scene scene = x -> {
            x.make(1);
            x.buffer(9, 1);
            x.view(1, 1, 0, 1);
            x.stamp(0);
            x.put(0, 0, 6, 2);
            x.put(0, 1, 6, 3);
            for (int o = 0; o < 4; o++) {
                x.put(0, 2 + o, 6, o);
            }
        };
        Edge.writes("list 0, buffer 1, view 2, stamp 3", scene, 6, 0, 15, 9, 6, 1, 13, 1, 0, 1,
            12, 1, 9, 1, 14, 0, 1, 6, 0, 1, 6, 1, 1, 6, 2, 1, 6, 3);
        Edge.writes("a handed one has none", Edge.then(scene, x -> x.pass(1)), 6, 0, 15, 9, 6,
            1, 13, 1, 0, 1, 7, 0, 1, 14, 0, 1, 6, 0, 1, 7, 0, 1, 6, 1, 1, 6, 2);
        Edge.writes("a view alone", scene, 6, 2, 15, 13, 1, 0, 1, 12, 1, 9);
        Edge.Scene refused = x -> Check.badArgument("a sign in it", () -> {
            x.put(0, 6, 7, 0);
            x.write(6, 0);
        });
        Edge.writes("from 0 again", Edge.then(scene, x -> {
            x.write(6, 0);
            x.take(0, 0);
            x.take(0, 1);
        }), 6, 0, 15, 9, 6, 0, 0, 1, 6, 0, 1, 12, 1, 9, 1, 13, 1, 0, 1, 6, 1, 1, 14, 0);
        Edge.writes("from 0 again, when one was refused", Edge.then(scene, refused), 6, 2,
            15, 13, 1, 0, 1, 12, 1, 9);
        Edge.writes("from 0 again, when one was refused", Edge.then(scene, x -> {
            refused.set(x);
            x.take(0, 6);
        }), 6, 0, 15, 9, 7, 1, 13, 1, 0, 1, 12, 1, 9, 1, 14, 0, 1, 6, 0, 1, 6, 1, 1, 6, 2, 1, 6, 3, 0);
    }

    private static void lists() {
        Edge.sentence("LIST: 9, length; for each place 0 for a hole, or 1 and the value");
        Edge.Scene list = x -> x.make(1);
        Edge.writes("length 0", list, 6, 0, 15, 9, 0);
        Edge.writes("length 1", Edge.then(list, x -> x.put(0, 0, 0, 0)), 6, 0, 15, 9, 1, 1, 0);
        Edge.writes("length 7", Edge.then(list, x -> x.put(0, 6, 3, 0)), 6, 0,
            15, 9, 7, 0, 0, 0, 0, 0, 0, 1, 3);
        Edge.writes("length 8", Edge.then(list, x -> x.put(0, 7, 3, 0)), 6, 0,
            15, 9, 8, 0, 0, 0, 0, 0, 0, 0, 1, 3);
        Edge.writes("holes alone", Edge.then(list, x -> {
            x.put(0, 1, 3, 0);
            x.take(0, 1);
        }), 6, 0, 15, 9, 2, 0, 0);
    }

    private static void maps() {
        Edge.sentence("MAP: 10, how many entries, and each one's key and value");
        Edge.Scene map = x -> x.make(2);
        Edge.writes("none", map, 6, 0, 15, 10, 0);
        Edge.Scene one = Edge.then(map, x -> x.entry(0, 4, 1, 5, 2));
        Edge.writes("one", one, 6, 0, 15, 10, 1, 4, 2, 5, 1, 2);
        Edge.Scene four = Edge.then(one, x -> {
            x.entry(0, 0, 0, 1, 0);
            x.entry(0, 6, 0, 6, 0);
            x.entry(0, 4, 0, 2, 0);
        });
        Edge.writes("four", four, 6, 0, 15, 10, 4, 4, 2, 5, 1, 2, 0, 1, 6, 0, 6, 0, 4, 0, 2);
    }

    private static void sets() {
        Edge.sentence("SET: 11, how many values, and these");
        Edge.Scene set = x -> x.make(3);
        Edge.writes("none", set, 6, 0, 15, 11, 0);
        Edge.Scene one = Edge.then(set, x -> x.add(0, 4, 1));
        Edge.writes("one", one, 6, 0, 15, 11, 1, 4, 2);
        Edge.Scene five = Edge.then(one, x -> {
            for (int kind = 0; kind <= 3; kind++) {
                x.add(0, kind, 0);
            }
        });
        Edge.writes("five", five, 6, 0, 15, 11, 5, 4, 2, 0, 1, 2, 3);
    }

    private static void buffers() {
        Edge.sentence("BUFFER: 12, how many bytes, and these");
        Edge.writes("none", x -> x.buffer(-1, 0), 6, 0, 15, 12, 0);
        Edge.writes("one", x -> x.buffer(-1, 1), 6, 0, 15, 12, 1, 255);
        Edge.writes("seven", x -> x.buffer(0x7706050403020100L, 7), 6, 0,
            15, 12, 7, 0, 1, 2, 3, 4, 5, 6);
        Edge.writes("eight", x -> x.buffer(0x8006050403020100L, 8), 6, 0,
            15, 12, 8, 0, 1, 2, 3, 4, 5, 6, 128);
    }

    private static void views() {
        Edge.sentence("VIEW: 13, unit, FROM, COUNT, and its buffer as a value");
        Edge.Scene buffer = x -> x.buffer(0, 8);
        Edge.writes("all", Edge.then(buffer, x -> x.view(0, 1, 0, 8)), 6, 1,
            15, 13, 1, 0, 8, 12, 8, 0, 0, 0, 0, 0, 0, 0, 0);
        Edge.writes("none", Edge.then(buffer, x -> x.view(0, 4, 8, 0)), 6, 1,
            15, 13, 4, 8, 0, 12, 8, 0, 0, 0, 0, 0, 0, 0, 0);
        Edge.writes("handed", Edge.then(buffer, x -> {
            x.view(0, 2, 6, 1);
            x.pass(0);
        }), 6, 1, 15, 13, 2, 6, 1, 7, 0);
    }

    /** Puts a new object under the last list of a nest, and into it what stands a depth deeper. */
    private static Edge.Scene inside(int lists, int sort) {
        return Edge.then(Scenes.nest(lists), x -> {
            int o = lists;
            switch (sort) {
                case 0:
                    x.make(0);
                    x.put(o, 0, 1, 0);
                    break;
                case 1:
                    x.make(0);
                    x.put(o, 0, 8, 16);
                    break;
                case 2:
                    x.make(1);
                    x.put(o, 7, 1, 0);
                    break;
                case 3:
                    x.make(2);
                    x.entry(o, 1, 0, 1, 0);
                    break;
                case 4:
                    x.make(3);
                    x.add(o, 1, 0);
                    break;
                default:
                    x.buffer(0, 0);
                    o = x.view(o, 1, 0, 0);
                    break;
            }
            if (lists > 0) {
                x.put(lists - 1, 0, 6, o);
            }
        });
    }

    private static void depthTwelve() {
        Edge.sentence("It is IMPOSSIBLE for any value at a depth above 12");
        int[] bytes = {5, 6, 11, 4, 3, 6};
        for (int sort = 0; sort < 6; sort++) {
            String what = "what is in object sort " + sort + " at depth ";
            Edge.answers(what + 11, inside(9, sort), x -> x.write(6, 0), 1 + 27 + bytes[sort]);
            Edge.answers(what + 12, inside(10, sort), x -> x.write(6, 0), 1 + 30 + bytes[sort]);
            impossible(what + 13, inside(11, sort), 6, 0);
            impossible(what + 14, inside(12, sort), 6, 0);
        }
        for (int kind = 0; kind <= 5; kind++) {
            int k = kind;
            Edge.Scene twelve = Edge.then(Scenes.nest(11), x -> x.put(10, 0, k, 0));
            Edge.answers("kind " + k, twelve, x -> x.write(6, 0), 1 + 33 + (k < 4 ? 1 : 2));
            Edge.Scene thirteen = Edge.then(Scenes.nest(12), x -> x.put(11, 0, k, 0));
            impossible("kind " + k, thirteen, 6, 0);
        }
        deepKeysAndValues();
        emptyAtDepthTwelve();
    }

    /** A key or a value of a map that has something in it again. */
    private static void deepKeysAndValues() {
        for (int lists = 9; lists <= 10; lists++) {
            int map = lists;
            Edge.Scene nest = Edge.then(Scenes.nest(lists), x -> {
                x.make(2);
                x.make(1);
                x.put(map - 1, 0, 6, map);
                x.put(map + 1, 0, 1, 0);
            });
            Edge.Scene key = Edge.then(nest, x -> x.entry(map, 6, map + 1, 1, 0));
            Edge.Scene value = Edge.then(nest, x -> x.entry(map, 1, 0, 6, map + 1));
            if (lists == 9) {
                Edge.answers("in a key at depth 12", key, x -> x.write(6, 0), 35);
                Edge.answers("in a value at depth 12", value, x -> x.write(6, 0), 35);
            } else {
                impossible("in a key at depth 13", key, 6, 0);
                impossible("in a value at depth 13", value, 6, 0);
            }
        }
    }

    private static void emptyAtDepthTwelve() {
        for (int type = 0; type <= 3; type++) {
            int t = type;
            Edge.Scene scene = Edge.then(Scenes.nest(11), x -> x.put(10, 0, 6, x.make(t)));
            Edge.answers("an empty one at depth 12", scene, x -> x.write(6, 0), 1 + 33 + 2);
            Edge.Scene deeper = Edge.then(Scenes.nest(12), x -> x.put(11, 0, 6, x.make(t)));
            impossible("an empty one at depth 13", deeper, 6, 0);
        }
        Edge.Scene holes = Edge.then(Scenes.nest(12), x -> {
            x.put(11, 7, 1, 0);
            x.take(11, 7);
        });
        Edge.answers("holes are no values", holes, x -> x.write(6, 0), 1 + 33 + 2 + 8);
    }

    private static void depthIsCountedFromOne() {
        Edge.sentence("the value at DEPTH 1; .. what is in them being a depth deeper");
        Edge.answers("12 lists", Scenes.nest(12), x -> x.write(6, 0), 1 + 33 + 2);
        impossible("13 lists", Scenes.nest(13), 6, 0);
        Edge.answers("13 lists from the second", Scenes.nest(13), x -> x.write(6, 1), 1 + 33 + 2);
        Edge.Scene wide = Edge.then(Scenes.nest(12), x -> x.put(0, 7, 6, x.make(1)));
        Edge.answers("beside them it is no deeper", wide, x -> x.write(6, 0), 36 + 6 + 1 + 2);
        Edge.Scene again = Edge.then(Scenes.nest(32), x -> Check.badArgument("32 lists",
            () -> x.write(6, 0)));
        Edge.answers("the last 12 of them", again, x -> x.write(6, 20), 1 + 33 + 2);
        impossible("the last 13 of them", Scenes.nest(32), 6, 19);
    }

    private static void sharedAtDepthThirteen() {
        Edge.sentence("IMPOSSIBLE for any value at a depth above 12: one in the row, one handed over");
        Edge.Scene row = Edge.then(Scenes.nest(11), x -> x.put(10, 0, 6, 0));
        Edge.answers("a place at depth 12", row, x -> x.write(6, 0), 1 + 33 + 2);
        Edge.Scene deeper = Edge.then(Scenes.nest(12), x -> x.put(11, 0, 6, 0));
        impossible("a place at depth 13", deeper, 6, 0);
        Edge.Scene handed = Edge.then(Scenes.nest(11), x -> {
            x.put(10, 0, 6, x.buffer(1, 1));
            x.pass(11);
        });
        Edge.answers("a handed one at depth 12", handed, x -> x.write(6, 0), 1 + 33 + 2);
        Edge.Scene unpassed = Edge.then(Scenes.nest(12), x -> x.put(11, 0, 6, x.buffer(1, 1)));
        Edge.breaks("a handed one at depth 13", Edge.then(unpassed, x -> x.pass(12)),
            x -> x.write(6, 0), Edge.ARGUMENT, unpassed);
    }

    /** A value in each place that there is for one: the last of these is a view's buffer. */
    private static Edge.Scene holding(int sort, int kind, int v) {
        return Edge.then(Scenes.EACH, x -> {
            switch (sort) {
                case 0:
                    x.put(0, 1, kind, v);
                    break;
                case 1:
                    x.put(1, 1, kind, v);
                    break;
                case 2:
                    x.entry(2, kind, v, 1, 0);
                    break;
                case 3:
                    x.entry(2, 1, 0, kind, v);
                    break;
                default:
                    x.add(3, kind, v);
                    break;
            }
        });
    }

    private static void impossibleIn(int kind, int v, Edge.Scene before) {
        int[] objects = {0, 1, 2, 2, 3};
        for (int sort = 0; sort < 5; sort++) {
            int o = objects[sort];
            Edge.Scene scene = Edge.then(holding(sort, kind, v), before);
            impossible("in object " + o, scene, 6, o);
            Edge.answers("others are written", scene, x -> x.write(6, (o + 1) % 4), 3);
        }
    }

    private static void signs() {
        Edge.sentence("IMPOSSIBLE .. for a SIGN");
        for (int v : new int[] {MIN, 0, MAX}) {
            impossible("itself", Scenes.EACH, 7, v);
            impossibleIn(7, v, Edge.NEW);
        }
    }

    private static void actors() {
        Edge.sentence("IMPOSSIBLE .. for an ACTOR");
        impossible("itself", Scenes.EACH, 6, 7);
        Edge.answers("a stamp is not", Scenes.EACH, x -> x.write(6, 6), 3);
        impossibleIn(6, 7, Edge.NEW);
    }

    private static void detachedBuffers() {
        Edge.sentence("IMPOSSIBLE .. for a detached buffer");
        Edge.Scene detached = Edge.then(Scenes.EACH, x -> x.detach(4));
        Edge.answers("not detached", Scenes.EACH, x -> x.write(6, 4), 6);
        impossible("itself", detached, 6, 4);
        Edge.answers("a view", Scenes.EACH, x -> x.write(6, 5), 10);
        impossible("its view", detached, 6, 5);
        impossibleIn(6, 4, x -> x.detach(4));
        impossibleIn(6, 5, x -> x.detach(4));
        Edge.Scene empty = x -> {
            x.buffer(0, 0);
            x.detach(0);
        };
        impossible("one without bytes", empty, 6, 0);
    }

    /** What list 0 gets at its last place, and how many bytes that takes with the 1 before it. */
    private static final Edge.Scene[] LAST = {
        x -> x.put(0, 7, 3, 0),
        x -> x.put(0, 7, 4, 0),
        x -> x.put(0, 7, 4, 64),
        x -> x.put(0, 7, 4, MAX),
        x -> x.put(0, 7, 5, 0),
        x -> x.put(0, 7, 5, 1),
        x -> x.put(0, 7, 5, -1),
        x -> x.put(0, 7, 6, 1),
        x -> x.put(0, 7, 6, x.make(0)),
        x -> {
            x.put(0, 7, 6, x.make(0));
            x.put(8, 64, 4, 0);
        },
        x -> x.put(0, 7, 6, x.make(1)),
        x -> {
            x.put(0, 7, 6, x.make(1));
            x.put(8, 0, 1, 0);
            x.take(8, 0);
        },
        x -> x.put(0, 7, 6, x.make(2)),
        x -> {
            x.put(0, 7, 6, x.make(2));
            x.entry(8, 1, 0, 4, 0);
        },
        x -> x.put(0, 7, 6, x.make(3)),
        x -> {
            x.put(0, 7, 6, x.make(3));
            x.add(8, 4, 64);
            x.add(8, 3, 0);
        },
        x -> x.put(0, 7, 6, x.buffer(0, 0)),
        x -> x.put(0, 7, 6, x.buffer(7, 8)),
        x -> {
            x.buffer(7, 1);
            x.put(0, 7, 6, x.view(8, 1, 0, 1));
        },
        x -> x.put(0, 7, 6, x.stamp(0)),
        x -> x.put(0, 7, 6, x.stamp(Long.MIN_VALUE)),
        x -> {
            x.put(0, 7, 6, x.buffer(7, 1));
            x.write(1, 0);
            x.pass(8);
        },
    };
    private static final int[] LAST_BYTES =
        {2, 3, 4, 7, 3, 4, 7, 3, 3, 8, 3, 4, 3, 6, 3, 7, 3, 11, 8, 3, 12, 3};

    private static void moreThan300() {
        Edge.sentence("IMPOSSIBLE .. when there would be more than 300 bytes");
        for (int i = 0; i < LAST.length; i++) {
            Edge.Scene last = LAST[i];
            for (int length = 298; length <= 302; length++) {
                Edge.Scene scene = Edge.then(Scenes.listOfLength(length - LAST_BYTES[i]), last);
                Edge.Scene written = Edge.then(scene, x -> x.write(6, 0));
                String what = length + " bytes, the last value " + i;
                if (length <= 300) {
                    Edge.answers(what, scene, x -> x.write(6, 0), length);
                    Edge.answers(what, written, x -> x.wipe(), length);
                } else {
                    Edge.Scene fed = Edge.then(scene, x -> Check.fill(x, 15, 4, 10));
                    Edge.breaks(what, fed, x -> x.write(6, 0), Edge.ARGUMENT, nothingPassed(fed));
                }
            }
        }
    }

    /** Writing a sign is refused, and nothing is passed then. */
    private static Edge.Scene nothingPassed(Edge.Scene scene) {
        return Edge.then(scene, x -> Check.badArgument("a sign", () -> x.write(7, 0)));
    }

    private static void nothingMoreIsDone() {
        Edge.sentence("as soon as that is so nothing more is done");
        Edge.Scene scene = x -> {
            x.make(1);
            x.make(0);
            x.buffer(1, 1);
            x.make(7);
            x.put(1, 0, 8, 4 + 8 * 2);
            x.put(1, 1, 8, 1);
            x.put(0, 1, 6, 1);
        };
        Edge.Scene[] first = {x -> x.put(0, 0, 7, 0), x -> x.put(0, 0, 6, 3), x -> {
            x.put(0, 0, 6, x.buffer(0, 0));
            x.detach(4);
        }, x -> {
            int before = 0;
            for (int i = 0; i < 12; i++) {
                int list = x.make(1);
                x.put(before, 0, 6, list);
                before = list;
            }
        }};
        for (int i = 0; i < first.length; i++) {
            impossible("impossible in front of getters, " + i, Edge.then(scene, first[i]),
                6, 0);
        }
        Edge.breaks("a getter that throws in front", scene, x -> x.write(6, 0), Edge.HARM,
            Edge.then(scene, x -> x.detach(2)));
        Edge.Scene behind = Edge.then(scene, x -> {
            x.take(1, 1);
            x.put(0, 2, 7, 0);
        });
        Edge.breaks("impossible behind a getter", behind, x -> x.write(6, 0), Edge.ARGUMENT,
            Edge.then(behind, x -> x.detach(2)));
    }

    /** A record with two getters, its mark being the byte with this number (from 1). */
    private static Edge.Scene recordAtByte(int place) {
        return Edge.then(Scenes.listOfLength(place - 2), x -> {
            int record = x.make(0);
            x.buffer(1, 1);
            x.buffer(2, 1);
            x.put(record, 0, 8, 4 + 8 * (record + 1));
            x.put(record, 1, 8, 4 + 8 * (record + 2));
            x.put(0, 7, 6, record);
        });
    }

    private static void gettersAtTheLimit() {
        Edge.sentence("its answer when it was run (before anything is written of it); more than 300: "
            + "as soon as that is so nothing more is done");
        Edge.Scene none = recordAtByte(301);
        impossible("its record begins at byte 301", none, 6, 0);
        for (int place = 296; place <= 300; place++) {
            Edge.Scene one = recordAtByte(place);
            int first = 9;
            boolean both = place + 4 <= 300;
            Edge.breaks("its record begins at byte " + place, one, x -> x.write(6, 0), Edge.ARGUMENT,
                Edge.then(one, x -> {
                    x.detach(first);
                    if (both) {
                        x.detach(first + 1);
                    }
                }));
        }
    }

    private static void gettersAtDepthTwelve() {
        Edge.sentence("its answer when it was run (before anything is written of it); a depth above 12");
        Edge.Scene scene = Edge.then(Scenes.nest(11), x -> {
            x.make(0);
            x.buffer(1, 1);
            x.buffer(2, 1);
            x.put(10, 0, 6, 11);
            x.put(11, 0, 8, 4 + 8 * 12);
            x.put(11, 1, 8, 4 + 8 * 13);
        });
        Edge.breaks("the first getter is run", scene, x -> x.write(6, 0), Edge.ARGUMENT,
            Edge.then(scene, x -> x.detach(12)));
        Edge.Scene harm = Edge.then(scene, x -> x.put(11, 0, 8, 1));
        Edge.refuses("it throws first", harm, x -> x.write(6, 0), Edge.HARM);
        Edge.Scene deeper = Edge.then(Scenes.nest(12), x -> {
            x.make(0);
            x.buffer(1, 1);
            x.put(11, 0, 6, 12);
            x.put(12, 0, 8, 1);
        });
        impossible("a record at depth 13 runs none", deeper, 6, 0);
    }
}

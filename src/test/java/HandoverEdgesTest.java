/** The edges in the document's term HANDING OVER, and in promises 16 to 18. */
public final class HandoverEdgesTest {
    private static final int NONE = CopiedGraphs.NONE;
    private static final int MIN = Integer.MIN_VALUE;
    private static final int MAX = Integer.MAX_VALUE;

    public static void main(String[] args) {
        passedObjects();
        passedAreFour();
        passedCanBeAnything();
        eachMustBeABuffer();
        eachMustNotBeDetached();
        noneTwice();
        refusedWhenWritingBegins();
        noneDetachedWhenAllIsWritten();
        detachedWhileItIsWritten();
        holdersInOrder();
        holdersInPlaceOfOthers();
        holdersGoneWhenNoneWasPassed();
        holdersStayWhenItIsRefused();
        handedOnesAreDetached();
        howManyHolders();
        bytesBecomeThese();
        noSuchValue();
        nothingIsPassedThen();
        whatGettersDidStays();
        whicheverComesFirst();
        Check.end();
    }

    private static Edge.Scene passing(int... objects) {
        return x -> {
            for (int o : objects) {
                x.pass(o);
            }
        };
    }

    private static Edge.Scene with(Edge.Scene scene, int... passed) {
        return Edge.then(scene, passing(passed));
    }

    private static void passedObjects() {
        Edge.sentence("pass: IllegalArgumentException when there is no such object");
        for (int o : new int[] {MIN, -1, 0, MAX}) {
            Edge.refuses("pass(" + o + ") without objects", Edge.NEW, x -> x.pass(o), Edge.ARGUMENT);
        }
        Edge.Scene three = Scenes.buffers(3);
        for (int o : new int[] {MIN, -1, 3, 4, 31, 32, MAX}) {
            Edge.refuses("pass(" + o + ") of three", three, x -> x.pass(o), Edge.ARGUMENT);
        }
        for (int o = 0; o < 3; o++) {
            int object = o;
            Edge.answers("pass(" + o + ") of three", three, x -> x.pass(object), 1);
        }
        Edge.Scene full = Edge.then(Scenes.more(31), Scenes.buffers(1));
        Edge.answers("pass(31) of 32", full, x -> x.pass(31), 1);
        Edge.refuses("pass(32) of 32", full, x -> x.pass(32), Edge.ARGUMENT);
        Edge.Scene forgotten = Edge.then(three, x -> x.clear());
        Edge.refuses("pass(0) after clear", forgotten, x -> x.pass(0), Edge.ARGUMENT);
    }

    private static void passedAreFour() {
        Edge.sentence("pass: how many there are; IllegalStateException when there are 4");
        Edge.Scene six = Scenes.buffers(6);
        Edge.answers("the first", six, x -> x.pass(5), 1);
        Edge.answers("the second", with(six, 0), x -> x.pass(5), 2);
        Edge.answers("the third", with(six, 0, 1), x -> x.pass(5), 3);
        Edge.answers("the fourth", with(six, 0, 1, 2), x -> x.pass(5), 4);
        Edge.refuses("a fifth", with(six, 0, 1, 2, 3), x -> x.pass(5), Edge.STATE);
        Edge.refuses("one of them again", with(six, 0, 1, 2, 3), x -> x.pass(0), Edge.STATE);
        Edge.refuses("no such object", with(six, 0, 1, 2, 3), x -> x.pass(6), Edge.ARGUMENT);
        Edge.answers("after clear", x -> {
            with(six, 0, 1, 2, 3).set(x);
            x.clear();
            x.buffer(0, 0);
        }, x -> x.pass(0), 1);
    }

    private static void passedCanBeAnything() {
        Edge.sentence("An object is passed");
        for (int o = 0; o < 8; o++) {
            int object = o;
            Edge.answers("type " + o, Scenes.EACH, x -> x.pass(object), 1);
            Edge.answers("twice", with(Scenes.EACH, o), x -> x.pass(object), 2);
        }
        Edge.answers("detached", Edge.then(Scenes.EACH, x -> x.detach(4)), x -> x.pass(4), 1);
    }

    private static void eachMustBeABuffer() {
        Edge.sentence("When writing begins, each of them must be a buffer");
        for (int o = 0; o < 8; o++) {
            Edge.Scene scene = with(Scenes.EACH, o);
            if (o == 4) {
                Edge.answers("a buffer", scene, x -> x.write(1, 0), 2);
            } else {
                Edge.breaks("type " + o, scene, x -> x.write(1, 0), Edge.ARGUMENT, Scenes.EACH);
                Edge.breaks("the last", with(Scenes.EACH, 4, o), x -> x.write(1, 0), Edge.ARGUMENT,
                    Scenes.EACH);
                Edge.breaks("the first", with(Scenes.EACH, o, 4), x -> x.write(1, 0), Edge.ARGUMENT,
                    Scenes.EACH);
            }
        }
    }

    private static void eachMustNotBeDetached() {
        Edge.sentence("When writing begins, each of them must be a buffer, not detached");
        Edge.Scene five = Scenes.buffers(5);
        for (int o = 0; o < 4; o++) {
            int detached = o;
            Edge.Scene before = Edge.then(five, x -> x.detach(detached));
            Edge.breaks("detached before", with(before, 0, 1, 2, 3), x -> x.write(1, 0),
                Edge.ARGUMENT, before);
            Edge.Scene after = Edge.then(with(five, 0, 1, 2, 3), x -> x.detach(detached));
            Edge.breaks("detached after", after, x -> x.write(1, 0), Edge.ARGUMENT, before);
        }
        Edge.Scene other = Edge.then(with(five, 0, 1, 2, 3), x -> x.detach(4));
        Edge.answers("another one detached", other, x -> x.write(1, 0), 2);
        Edge.Scene handed = Edge.then(with(five, 0), x -> x.write(1, 0));
        Edge.breaks("handed over before", with(handed, 0), x -> x.write(1, 0), Edge.ARGUMENT, handed);
    }

    private static void noneTwice() {
        Edge.sentence("and none twice");
        Edge.Scene four = Scenes.buffers(4);
        int[][] twice = {{0, 0}, {0, 1, 0}, {0, 1, 1}, {0, 0, 1}, {0, 1, 2, 0}, {0, 1, 2, 2},
            {0, 1, 2, 1}, {3, 3, 3, 3}};
        for (int[] passed : twice) {
            Edge.breaks("twice", with(four, passed), x -> x.write(1, 0), Edge.ARGUMENT, four);
        }
        int[][] once = {{}, {0}, {3, 0}, {2, 1, 0}, {0, 1, 2, 3}, {3, 2, 1, 0}};
        for (int[] passed : once) {
            Edge.answers("once", with(four, passed), x -> x.write(1, 0), 2);
        }
        Edge.answers("two that have the same bytes", x -> {
            x.buffer(7, 1);
            x.buffer(7, 1);
            x.pass(0);
            x.pass(1);
        }, x -> x.write(1, 0), 2);
    }

    /** Buffers 0 to 2, and a record 3 with getters that detach buffer 2 and then throw. */
    private static final Edge.Scene HARMFUL = Edge.then(Scenes.buffers(3), x -> {
        x.make(0);
        x.put(3, 0, 8, 4 + 8 * 2);
        x.put(3, 1, 8, 1);
    });

    private static void refusedWhenWritingBegins() {
        Edge.sentence("When writing begins .. otherwise it is impossible; nothing more is done");
        Edge.breaks("no getter is run", with(HARMFUL, 3), x -> x.write(6, 3), Edge.ARGUMENT, HARMFUL);
        Edge.breaks("no getter is run", with(HARMFUL, 0, 0), x -> x.write(6, 3), Edge.ARGUMENT, HARMFUL);
        Edge.Scene detached = Edge.then(HARMFUL, x -> x.detach(0));
        Edge.breaks("no getter is run", with(detached, 0), x -> x.write(6, 3), Edge.ARGUMENT, detached);
        Edge.breaks("all is well", with(HARMFUL, 0, 1), x -> x.write(6, 3), Edge.HARM,
            Edge.then(HARMFUL, x -> x.detach(2)));
    }

    /** Buffers 0 and 1, and a record 2 whose getter detaches buffer 1. */
    private static final Edge.Scene DETACHING = Edge.then(Scenes.buffers(2), x -> {
        x.make(0);
        x.put(2, 0, 8, 4 + 8 * 1);
    });

    private static void noneDetachedWhenAllIsWritten() {
        Edge.sentence("when all is written, none must be detached");
        Edge.Scene done = Edge.then(DETACHING, x -> x.detach(1));
        int[][] refused = {{1}, {0, 1}, {1, 0}};
        for (int[] passed : refused) {
            Edge.breaks("it is", with(DETACHING, passed), x -> x.write(6, 2), Edge.ARGUMENT, done);
        }
        Edge.shows("another one is", Edge.then(with(DETACHING, 0), x -> x.write(6, 2)),
            "bytes[15 8 1 0 4 2 0] holders 1 found 0 objects[detached, detached, record(0=8.12)]");
        Edge.answers("none is passed", DETACHING, x -> x.write(6, 2), 7);
    }

    private static void detachedWhileItIsWritten() {
        Edge.sentence("for one that is to be handed over 7 and its place; when all is written, none");
        Edge.Scene behind = Edge.then(DETACHING, x -> {
            x.put(2, 1, 6, 1);
            x.put(2, 2, 8, 1);
        });
        Edge.breaks("it is refused when all is written, not before", with(behind, 1),
            x -> x.write(6, 2), Edge.HARM, Edge.then(behind, x -> x.detach(1)));
        Edge.breaks("one that is not handed over is refused at once", behind, x -> x.write(6, 2),
            Edge.ARGUMENT, Edge.then(behind, x -> x.detach(1)));
    }

    private static void holdersInOrder() {
        Edge.sentence("Then they become HOLDERS of their bytes, in order");
        Edge.Scene scene = x -> {
            x.buffer(0x0807060504030201L, 8);
            x.buffer(-1, 0);
            x.buffer(9, 1);
            x.buffer(0x0B0A, 2);
        };
        Edge.Scene anew = Edge.then(with(scene, 3, 1, 0, 2), x -> {
            x.write(1, 0);
            x.read();
        });
        Edge.shows("four", anew, "bytes[15 1] holders 0 found 0 objects[detached, detached, detached, "
            + "detached, buffer(10 11), buffer(), buffer(1 2 3 4 5 6 7 8), buffer(9)]");
        Edge.shows("one", Edge.then(with(scene, 2), x -> {
            x.write(1, 0);
            x.read();
        }), "bytes[15 1] holders 0 found 0 objects[buffer(1 2 3 4 5 6 7 8), buffer(), detached, "
            + "buffer(10 11), buffer(9)]");
    }

    private static void holdersInPlaceOfOthers() {
        Edge.sentence("in place of those that there were (which are gone ..)");
        for (int before = 0; before <= 4; before++) {
            for (int after = 0; after <= 4; after++) {
                int b = before;
                int a = after;
                Edge.Scene scene = Edge.then(Scenes.buffers(8), x -> {
                    for (int i = 0; i < b; i++) {
                        x.pass(i);
                    }
                    x.write(1, 0);
                    for (int i = 0; i < a; i++) {
                        x.pass(4 + i);
                    }
                });
                Edge.answers("before", scene, x -> x.holders(), before);
                Edge.Scene written = Edge.then(scene, x -> x.write(1, 0));
                Edge.answers("after", written, x -> x.holders(), after);
                Edge.Scene anew = Edge.then(written, x -> x.read());
                Edge.answers("anew", anew, x -> x.objects(), 8 + after);
                for (int i = 0; i < after; i++) {
                    Edge.object("anew", anew, 8 + i, "buffer(" + (5 + i) + ")");
                }
            }
        }
    }

    private static void holdersGoneWhenNoneWasPassed() {
        Edge.sentence("(which are gone, also when none was passed)");
        Edge.Scene held = Edge.then(with(Scenes.buffers(2), 0, 1), x -> x.write(1, 0));
        Edge.answers("before", held, x -> x.holders(), 2);
        Edge.answers("after", Edge.then(held, x -> x.write(1, 0)), x -> x.holders(), 0);
        Edge.wrong("they can't be read", Edge.then(held, x -> x.write(1, 0)), 15, 7, 0);
    }

    private static void holdersStayWhenItIsRefused() {
        Edge.sentence("otherwise it is impossible. Then they become HOLDERS; a call that throws changes "
            + "nothing");
        Edge.Scene held = Edge.then(HARMFUL, x -> {
            x.pass(0);
            x.write(1, 0);
        });
        Edge.refuses("a sign", held, x -> x.write(7, 0), Edge.ARGUMENT);
        Edge.refuses("no such value", held, x -> x.write(8, 0), Edge.ARGUMENT);
        Edge.breaks("twice", with(held, 1, 1), x -> x.write(1, 0), Edge.ARGUMENT, held);
        Edge.breaks("harm", with(held, 1), x -> x.write(6, 3), Edge.HARM,
            Edge.then(held, x -> x.detach(2)));
        Edge.answers("holders", held, x -> x.holders(), 1);
    }

    private static void handedOnesAreDetached() {
        Edge.sentence("and are detached");
        Edge.Scene scene = Edge.then(with(Scenes.buffers(6), 0, 2, 3, 5), x -> x.write(4, 0));
        int[] sizes = {NONE, 1, NONE, NONE, 1, NONE};
        for (int o = 0; o < 6; o++) {
            int object = o;
            Edge.answers("buffer " + o, scene, x -> x.size(object), sizes[o]);
            Edge.answers("buffer " + o, scene, x -> Edge.bool(x.detach(object)), sizes[o] == 1 ? 1 : 0);
        }
        Edge.Scene empty = x -> {
            x.buffer(0, 0);
            x.pass(0);
            x.write(1, 0);
        };
        Edge.objects("one without bytes", empty, "detached");
    }

    private static void howManyHolders() {
        Edge.sentence("holders: How many holders there are.");
        for (int count = 0; count <= 4; count++) {
            int n = count;
            Edge.Scene passed = Edge.then(Scenes.buffers(5), x -> {
                for (int i = 0; i < n; i++) {
                    x.pass(i);
                }
            });
            Edge.keeps("passed ones are none yet", passed, x -> x.holders(), 0);
            Edge.Scene written = Edge.then(passed, x -> x.write(1, 0));
            Edge.keeps("written", written, x -> x.holders(), n);
            Edge.answers("read", Edge.then(written, x -> x.read()), x -> x.holders(), 0);
            Edge.answers("forgotten", Edge.then(written, x -> x.clear()), x -> x.holders(), 0);
            Edge.answers("wipe leaves them", Edge.then(written, x -> x.wipe()), x -> x.holders(), n);
        }
    }

    private static void bytesBecomeThese() {
        Edge.sentence("write: the bytes become these; how many there are");
        Edge.Scene fed = x -> {
            for (int i = 0; i < 37; i++) {
                x.feed(-1, 8);
            }
            x.feed(-1, 4);
        };
        Edge.becomes("in place of 300", fed, x -> x.write(1, 0), 2, x -> Check.fill(x, 15, 1));
        Edge.becomes("in place of none", Edge.NEW, x -> x.write(4, 64), 4,
            x -> Check.fill(x, 15, 4, 128, 1));
        Edge.refuses("a refused one leaves them", fed, x -> x.write(7, 0), Edge.ARGUMENT);
    }

    private static void noSuchValue() {
        Edge.sentence("write: IllegalArgumentException when there is no such value");
        Edge.Scene scene = Edge.then(Scenes.buffers(2), x -> x.write(4, 9));
        int[][] none = {{MIN, 0}, {-1, 0}, {8, 0}, {9, 0}, {MAX, 0}, {5, 0x100}, {5, MIN}, {6, -1},
            {6, 2}, {6, MIN}, {6, MAX}};
        for (int[] v : none) {
            Edge.refuses("no value", scene, x -> x.write(v[0], v[1]), Edge.ARGUMENT);
            Edge.breaks("no value", with(scene, 0, 1), x -> x.write(v[0], v[1]), Edge.ARGUMENT, scene);
        }
        Edge.answers("the last object", scene, x -> x.write(6, 1), 4);
    }

    private static void nothingIsPassedThen() {
        Edge.sentence("Nothing is passed then, also when this throws");
        Edge.Scene all = with(HARMFUL, 0, 1);
        Edge.Scene[] writes = {
            x -> x.write(1, 0),
            x -> Check.badArgument("no such value", () -> x.write(9, 0)),
            x -> Check.badArgument("a sign", () -> x.write(7, 0)),
            x -> Check.harmed("a getter throws", () -> x.write(6, 3)),
            x -> {
                x.pass(3);
                Check.badArgument("no buffer is passed", () -> x.write(1, 0));
            },
            x -> {
                x.take(3, 1);
                x.pass(2);
                Check.badArgument("detached on the way", () -> x.write(6, 3));
            },
        };
        for (Edge.Scene write : writes) {
            Edge.answers("passed then", Edge.then(all, write), x -> x.pass(3), 1);
        }
    }

    private static void whatGettersDidStays() {
        Edge.sentence("Nothing is passed then, also when this throws; what getters did stays.");
        Edge.Scene scene = x -> {
            x.make(0);
            x.buffer(1, 1);
            x.put(0, 0, 8, 2 + 8 * 5);
            x.put(0, 1, 8, 3 + 8 * 9);
            x.put(0, 2, 8, 4 + 8 * 1);
            x.put(0, 5, 1, 0);
            x.put(0, 6, 4, 0);
        };
        Edge.Scene did = Edge.then(scene, x -> {
            x.take(0, 5);
            x.put(0, 9, 4, 7);
            x.detach(1);
        });
        Edge.shows("it is written", Edge.then(scene, x -> x.write(6, 0)),
            "bytes[15 8 1 0 4 10 1 2 4 18 1 4 4 2 1 12 4 0 0] holders 0 found 0 "
            + "objects[record(0=8.42 1=8.75 2=8.12 6=4.0 9=4.7), detached]");
        Edge.Scene sign = x -> x.put(0, 6, 7, 0);
        Edge.breaks("it is impossible", Edge.then(scene, sign), x -> x.write(6, 0), Edge.ARGUMENT,
            Edge.then(did, sign));
        Edge.Scene harm = x -> x.put(0, 6, 8, 1);
        Edge.breaks("a getter throws", Edge.then(scene, harm), x -> x.write(6, 0), Edge.HARM,
            Edge.then(did, harm));
    }

    private static void whicheverComesFirst() {
        Edge.sentence("NoSuchElementException when a getter throws (whichever comes first on the way)");
        Edge.Scene scene = x -> {
            x.make(1);
            x.make(0);
            x.make(7);
            x.put(1, 0, 8, 1);
        };
        Edge.Scene signFirst = Edge.then(scene, x -> {
            x.put(0, 0, 7, 0);
            x.put(0, 1, 6, 1);
        });
        Edge.refuses("a sign first", signFirst, x -> x.write(6, 0), Edge.ARGUMENT);
        Edge.Scene getterFirst = Edge.then(scene, x -> {
            x.put(0, 0, 6, 1);
            x.put(0, 1, 7, 0);
        });
        Edge.refuses("a getter first", getterFirst, x -> x.write(6, 0), Edge.HARM);
        Edge.Scene inOne = Edge.then(scene, x -> x.put(1, 1, 6, 2));
        Edge.refuses("in one record, a getter first", inOne, x -> x.write(6, 1), Edge.HARM);
        Edge.Scene actorFirst = Edge.then(inOne, x -> {
            x.take(1, 0);
            x.put(1, 3, 8, 1);
        });
        Edge.refuses("in one record, an actor first", actorFirst, x -> x.write(6, 1), Edge.ARGUMENT);
    }
}

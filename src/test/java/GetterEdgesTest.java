/** The edges in the document's term RUNNING, and of what is written of a record's keys. */
public final class GetterEdgesTest {
    private static final int NONE = CopiedGraphs.NONE;
    private static final int MIN = Integer.MIN_VALUE;
    private static final int MAX = Integer.MAX_VALUE;
    /** The largest ARGUMENT that there is, and the smallest. */
    private static final int MOST = MAX / 8;
    private static final int LEAST = MIN / 8;

    public static void main(String[] args) {
        zeroDoesNothing();
        oneThrows();
        twoTakes();
        twoTakesFromItsRecord();
        threeGives();
        threeGivesToFewerThanSix();
        threeGivesToNoneWithThatKey();
        threeGivesInOrder();
        fourDetaches();
        fourDetachesBuffersAlone();
        othersDoNothing();
        argumentIsRoundedDown();
        answerIsTheArgument();
        onlyWritingRuns();
        keysThatItHasThen();
        keysThatItStillHas();
        runBeforeAnythingIsWritten();
        Check.end();
    }

    private static int getter(int action, int argument) {
        return action + 8 * argument;
    }

    /** Record 0 with getters: a key, and the getter's number, and so on. */
    private static Edge.Scene record(int... keysAndNumbers) {
        return x -> {
            x.make(0);
            for (int i = 0; i < keysAndNumbers.length; i += 2) {
                x.put(0, keysAndNumbers[i], 8, keysAndNumbers[i + 1]);
            }
        };
    }

    /** The scene after object 0 has been written. */
    private static Edge.Scene written(Edge.Scene scene) {
        return Edge.then(scene, x -> x.write(6, 0));
    }

    private static void zeroDoesNothing() {
        Edge.sentence("RUNNING a getter of a record does, by its action, 0: nothing");
        for (int argument : new int[] {LEAST, -1, 0, 1, 5, MOST}) {
            Edge.Scene scene = x -> {
                record(5, getter(0, argument)).set(x);
                x.buffer(1, 1);
            };
            Edge.objects("argument " + argument, written(scene),
                "record(5=8." + getter(0, argument) + "), buffer(1)");
        }
    }

    private static void oneThrows() {
        Edge.sentence("1: it throws");
        for (int argument : new int[] {LEAST, -1, 0, 1, 5, MOST}) {
            for (int action = 0; action < 8; action++) {
                Edge.Scene scene = record(5, getter(action, argument));
                if (action == 1) {
                    Edge.refuses("argument " + argument, scene, x -> x.write(6, 0), Edge.HARM);
                } else {
                    Edge.answers("action " + action, scene, x -> x.write(6, 0) > 0 ? 1 : 0, 1);
                }
            }
        }
    }

    private static void twoTakes() {
        Edge.sentence("2: takes the property with the key ARGUMENT away from its record, if that has it");
        for (int key : new int[] {LEAST, -1, 0, 1, MOST}) {
            int number = getter(2, key);
            Edge.Scene has = Edge.then(record(5, number), x -> x.put(0, key, 1, 0));
            Edge.objects("it has it", written(has), "record(5=8." + number + ")");
            Edge.Scene itself = record(key, number);
            Edge.objects("itself", written(itself), "record()");
            Edge.Scene beside = Edge.then(record(5, number), x -> {
                x.put(0, key + 1, 1, 0);
                x.put(0, key - 1, 1, 0);
            });
            Edge.answers("it has it not", written(beside), x -> x.size(0), 3);
            Edge.objects("it is alone", written(record(5, number)), "record(5=8." + number + ")");
        }
    }

    private static void twoTakesFromItsRecord() {
        Edge.sentence("away from its record");
        Edge.Scene scene = x -> {
            record(5, getter(2, 3)).set(x);
            x.make(0);
            x.make(1);
            x.put(1, 3, 1, 0);
            x.put(2, 3, 1, 0);
            x.put(0, 6, 6, 1);
            x.put(0, 7, 6, 2);
        };
        Edge.objects("not from others", written(scene),
            "record(5=8.26 6=6.1 7=6.2), record(3=1.0), list(hole hole hole 1.0)");
        Edge.Scene buffer = x -> {
            record(5, getter(2, 1)).set(x);
            x.buffer(9, 1);
        };
        Edge.objects("the object with that number stays", written(buffer), "record(5=8.10), buffer(9)");
    }

    private static void threeGives() {
        Edge.sentence("3: gives its record a property with the key ARGUMENT and NUMBER 7");
        for (int key : new int[] {LEAST, -1, 0, 1, MOST}) {
            int number = getter(3, key);
            String given = key + "=4.7";
            String own = (key < 0 ? "5=8." + number + " " + given
                : key < 5 ? given + " 5=8." + number : "5=8." + number + " " + given);
            Edge.objects("key " + key, written(record(5, number)), "record(" + own + ")");
        }
        Edge.Scene other = x -> {
            record(5, getter(3, 9)).set(x);
            x.make(0);
            x.put(0, 6, 6, 1);
        };
        Edge.objects("to its record alone", written(other), "record(5=8.75 6=6.1 9=4.7), record()");
        Edge.Scene buffer = x -> {
            record(5, getter(3, 1)).set(x);
            x.buffer(9, 1);
        };
        Edge.objects("the object with that number stays", written(buffer),
            "record(1=4.7 5=8.11), buffer(9)");
    }

    /** Record 0 with so many properties, the first of them a getter that gives key 9. */
    private static Edge.Scene giving(int properties) {
        return Edge.then(Scenes.record(properties), x -> x.put(0, 0, 8, getter(3, 9)));
    }

    private static void threeGivesToFewerThanSix() {
        Edge.sentence("if it has none with that key and fewer than 6");
        for (int there = 1; there <= 6; there++) {
            int want = Math.min(6, there + 1);
            Edge.answers("to " + there, written(giving(there)), x -> x.size(0), want);
        }
        Edge.objects("the sixth", written(giving(5)), "record(0=8.75 1=1.0 2=1.0 3=1.0 4=1.0 9=4.7)");
        Edge.objects("no seventh", written(giving(6)),
            "record(0=8.75 1=1.0 2=1.0 3=1.0 4=1.0 5=1.0)");
        Edge.Scene taken = Edge.then(giving(6), x -> {
            x.put(0, 0, 8, getter(2, 5));
            x.put(0, 1, 8, getter(3, 9));
        });
        Edge.objects("when one was taken there is room", written(taken),
            "record(0=8.42 1=8.75 2=1.0 3=1.0 4=1.0 9=4.7)");
    }

    private static void threeGivesToNoneWithThatKey() {
        Edge.sentence("if it has none with that key");
        for (int key : new int[] {LEAST, -1, 0, 6, MOST}) {
            Edge.Scene has = Edge.then(record(5, getter(3, key)), x -> x.put(0, key, 2, 0));
            Edge.answers("it has it", written(has), x -> x.size(0), 2);
            int at = key >= 0 && key < 5 ? 0 : 1;
            Edge.answers("its value stays", written(has), x -> x.get(0, at, 1), 2);
        }
        Edge.objects("itself", written(record(5, getter(3, 5))), "record(5=8.43)");
    }

    private static void threeGivesInOrder() {
        Edge.sentence("THEIR ORDER: .. those below 0 in the order in which they came to the record");
        Edge.Scene scene = record(-5, getter(3, -9), -6, getter(3, 0), 4, getter(3, 2));
        Edge.objects("given ones", written(scene),
            "record(0=4.7 2=4.7 4=8.19 -5=8.-69 -6=8.3 -9=4.7)");
        Edge.Scene again = record(-5, getter(2, -5), -6, getter(3, -5));
        Edge.objects("taken and given again", written(again), "record(-6=8.-37 -5=4.7)");
    }

    private static void fourDetaches() {
        Edge.sentence("4: detaches object ARGUMENT, if there is such a one");
        for (int argument : new int[] {LEAST, -1, 0, 1, 2, 3, 4, 31, 32, MOST}) {
            Edge.Scene scene = x -> {
                record(5, getter(4, argument)).set(x);
                x.buffer(1, 1);
                x.buffer(2, 0);
                x.buffer(3, 8);
            };
            for (int o = 1; o <= 3; o++) {
                int buffer = o;
                int[] sizes = {0, 1, 0, 8};
                int want = o == argument ? NONE : sizes[o];
                Edge.answers("argument " + argument, written(scene), x -> x.size(buffer), want);
            }
        }
        Edge.Scene full = x -> {
            record(5, getter(4, 31)).set(x);
            Scenes.more(30).set(x);
            x.buffer(1, 1);
        };
        Edge.answers("the last of 32", written(full), x -> x.size(31), NONE);
        Edge.answers("it was a buffer", full, x -> x.size(31), 1);
    }

    private static void fourDetachesBuffersAlone() {
        Edge.sentence("detaches object ARGUMENT, if there is such a one, a buffer");
        for (int type = 0; type < 8; type++) {
            int o = type;
            Edge.Scene scene = Edge.then(Scenes.EACH, x -> x.put(0, 5, 8, getter(4, o)));
            String buffer = type == 4 ? "detached" : "buffer(1 2 3)";
            Edge.objects("type " + type, written(scene), "record(5=8." + getter(4, o)
                + "), list(), map(), set(), " + buffer + ", view(4 unit 2 from 0 count 1), "
                + "stamp(-6), actor");
        }
        Edge.Scene twice = Edge.then(Scenes.EACH, x -> {
            x.put(0, 5, 8, getter(4, 4));
            x.put(0, 6, 8, getter(4, 4));
        });
        Edge.answers("one that was detached", twice, x -> x.write(6, 0), 11);
    }

    private static void othersDoNothing() {
        Edge.sentence("others: nothing");
        for (int action = 5; action < 8; action++) {
            for (int argument : new int[] {LEAST, -1, 0, 1, 5, MOST}) {
                int number = getter(action, argument);
                Edge.Scene scene = x -> {
                    record(5, number).set(x);
                    x.buffer(1, 1);
                };
                Edge.objects("action " + action, written(scene), "record(5=8." + number + "), buffer(1)");
            }
        }
    }

    private static void argumentIsRoundedDown() {
        Edge.sentence("ARGUMENT is the number / 8, rounded down");
        int[][] pairs = {{0, 0}, {5, 0}, {6, 0}, {7, 0}, {8, 1}, {15, 1}, {16, 2}, {-1, -1}, {-2, -1},
            {-3, -1}, {-8, -1}, {-9, -2}, {-10, -2}, {-16, -2}, {-17, -3}, {MAX, MOST},
            {MAX - 7, MOST}, {MAX - 8, MOST - 1}, {MIN, LEAST}, {MIN + 7, LEAST}, {MIN + 8, LEAST + 1}};
        for (int[] p : pairs) {
            Edge.Scene anew = Edge.then(written(record(3, p[0])), x -> x.read());
            Edge.object("number " + p[0], anew, 1, "record(3=4." + p[1] + ")");
        }
        Edge.refuses("-7 is 1 and -1", record(3, -7), x -> x.write(6, 0), Edge.HARM);
        Edge.objects("-6 is 2 and -1", written(record(-1, 0, 3, -6)), "record(3=8.-6)");
        Edge.objects("-5 is 3 and -1", written(record(3, -5)), "record(3=8.-5 -1=4.7)");
        Edge.objects("-4 is 4 and -1", Edge.then(x -> x.buffer(1, 1), x -> {
            x.make(0);
            x.put(1, 3, 8, -4);
            x.write(6, 1);
        }), "buffer(1), record(3=8.-4)");
    }

    private static void answerIsTheArgument() {
        Edge.sentence("Its answer is NUMBER with ARGUMENT.");
        int[] actions = {0, 2, 3, 4, 5, 6, 7};
        for (int action : actions) {
            Edge.writes("0", record(3, getter(action, 0)), 6, 0, 15, 8, 1, 6, 4, 0, 0);
            Edge.writes("1", record(3, getter(action, 1)), 6, 0, 15, 8, 1, 6, 4, 2, 0);
            Edge.writes("-1", record(3, getter(action, -1)), 6, 0, 15, 8, 1, 6, 4, 1, 0);
            Edge.writes("MOST", record(3, getter(action, MOST)), 6, 0,
                15, 8, 1, 6, 4, 254, 255, 255, 255, 1, 0);
            Edge.writes("LEAST", record(3, getter(action, LEAST)), 6, 0,
                15, 8, 1, 6, 4, 255, 255, 255, 255, 1, 0);
        }
    }

    private static void onlyWritingRuns() {
        Edge.sentence("for a getter, its answer when it was run");
        Edge.Scene scene = record(3, getter(1, 0), 4, getter(2, 3), 5, getter(3, 9));
        Edge.keeps("size", scene, x -> x.size(0), 3);
        Edge.keeps("get", scene, x -> x.get(0, 0, 2), 1);
        Edge.keeps("another value is written", scene, x -> x.type(0), 0);
        Edge.accepts("put over it", scene, x -> x.put(0, 3, 4, 1),
            Edge.then(record(3, 0, 4, getter(2, 3), 5, getter(3, 9)), x -> x.put(0, 3, 4, 1)));
        Edge.becomes("take", scene, x -> Edge.bool(x.take(0, 3)), 1,
            record(4, getter(2, 3), 5, getter(3, 9)));
        Edge.objects("it is no part of what is written", Edge.then(scene, x -> x.write(4, 2)),
            "record(3=8.1 4=8.26 5=8.75)");
    }

    private static void keysThatItHasThen() {
        Edge.sentence("then for the keys that it has then, in order");
        Edge.writes("one given behind", record(3, getter(3, 4)), 6, 0, 15, 8, 1, 6, 4, 8, 0);
        Edge.writes("one given in front", record(3, getter(3, 2)), 6, 0, 15, 8, 1, 6, 4, 4, 0);
        Edge.writes("one given below 0", record(3, getter(3, -2)), 6, 0, 15, 8, 1, 6, 4, 3, 0);
        Edge.writes("when it is written again", written(record(3, getter(3, 4))), 6, 0,
            15, 8, 1, 6, 4, 8, 1, 8, 4, 14, 0);
        Edge.writes("in order", record(-1, 0, 64, 0, -65, 0, 0, 0), 6, 0,
            15, 8, 1, 0, 4, 0, 1, 128, 1, 4, 0, 1, 1, 4, 0, 1, 129, 1, 4, 0, 0);
        Edge.writes("none", record(), 6, 0, 15, 8, 0);
        Edge.writes("given ones do not shift it", record(3, getter(3, 1), 4, 8, 5, 16), 6, 0,
            15, 8, 1, 6, 4, 2, 1, 8, 4, 2, 1, 10, 4, 4, 0);
    }

    private static void keysThatItStillHas() {
        Edge.sentence("when it still has that key, the value");
        Edge.writes("a later one is taken", record(3, getter(2, 4), 4, 0, 5, 0), 6, 0,
            15, 8, 1, 6, 4, 8, 1, 10, 4, 0, 0);
        Edge.writes("the last one is taken", record(3, getter(2, 5), 4, 0, 5, 0), 6, 0,
            15, 8, 1, 6, 4, 10, 1, 8, 4, 0, 0);
        Edge.writes("an earlier one is taken", record(3, 0, 4, getter(2, 3), 5, 0), 6, 0,
            15, 8, 1, 6, 4, 0, 1, 8, 4, 6, 1, 10, 4, 0, 0);
        Edge.writes("itself is taken", record(3, getter(2, 3), 4, 0), 6, 0,
            15, 8, 1, 6, 4, 6, 1, 8, 4, 0, 0);
        Edge.writes("one that would throw", record(3, getter(2, 4), 4, getter(1, 0)), 6, 0,
            15, 8, 1, 6, 4, 8, 0);
        Edge.writes("taken and given again", record(3, getter(2, 5), 4, getter(3, 5), 5, 0), 6, 0,
            15, 8, 1, 6, 4, 10, 1, 8, 4, 10, 1, 10, 4, 14, 0);
        Edge.writes("all others are taken",
            record(0, getter(2, 1), 1, getter(2, 0), 2, getter(2, 3), 3, getter(2, 2)), 6, 0,
            15, 8, 1, 0, 4, 2, 1, 4, 4, 6, 0);
        Edge.Scene sign = Edge.then(record(3, getter(2, 4)), x -> x.put(0, 4, 7, 0));
        Edge.writes("a sign that is taken", sign, 6, 0, 15, 8, 1, 6, 4, 8, 0);
    }

    private static void runBeforeAnythingIsWritten() {
        Edge.sentence("its answer when it was run (before anything is written of it)");
        Edge.Scene scene = x -> {
            record(3, getter(4, 1), 4, getter(1, 0)).set(x);
            x.buffer(1, 1);
            x.write(4, 2);
        };
        Edge.breaks("the first was run, the second throws", scene, x -> x.write(6, 0), Edge.HARM,
            Edge.then(scene, x -> x.detach(1)));
        Edge.Scene row = x -> {
            x.make(1);
            x.make(0);
            x.buffer(9, 1);
            x.put(0, 0, 6, 2);
            x.put(0, 1, 6, 1);
            x.put(0, 2, 6, 2);
            x.put(1, 0, 8, getter(4, 2));
        };
        Edge.writes("what was written before stays", row, 6, 0,
            15, 9, 3, 1, 12, 1, 9, 1, 8, 1, 0, 4, 4, 0, 1, 6, 1);
    }
}

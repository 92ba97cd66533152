import java.util.NoSuchElementException;

/**
 * Calls at an edge that a sentence of the document names. Each is made on a new object that a scene
 * has set; what it leaves is compared with another new object, so a call that changes too much is
 * seen, too. (New ones each time, since nothing is promised after an object's 512th call.)
 */
final class Edge {
    /** Calls, whatever they answer. */
    interface Scene {
        void set(CopiedGraphs x);
    }

    interface Call {
        long on(CopiedGraphs x);
    }

    private interface Look {
        String at(CopiedGraphs x);
    }

    static final Class<IllegalArgumentException> ARGUMENT = IllegalArgumentException.class;
    static final Class<IllegalStateException> STATE = IllegalStateException.class;
    static final Class<IndexOutOfBoundsException> BOUNDS = IndexOutOfBoundsException.class;
    static final Class<NoSuchElementException> HARM = NoSuchElementException.class;

    static final Scene NEW = x -> { };

    /** What is passed and what holders hold is seen only by calls that change them. */
    private static final Look[] LOOKS = {
        x -> State.of(x),
        x -> "pass(0) " + outcome(x, y -> y.pass(0)),
        x -> "write(1, 0) " + outcome(x, y -> y.write(1, 0)) + " " + State.of(x),
        x -> "write(6, 0) " + outcome(x, y -> y.write(6, 0)) + " " + State.of(x),
        x -> "read() " + outcome(x, y -> y.read()) + " " + State.of(x),
        x -> "the holders " + outcome(x, y -> readNull(y)) + " " + State.of(x),
    };

    private static String sentence = "";

    private Edge() {
    }

    /** The document's words that the next calls look at; they stand in front of what is reported. */
    static void sentence(String words) {
        sentence = "\"" + words + "\": ";
    }

    static Scene then(Scene first, Scene second) {
        return x -> {
            first.set(x);
            second.set(x);
        };
    }

    static void answers(String what, Scene scene, Call call, long want) {
        equal(what, seen(scene, x -> outcome(x, call)), "" + want);
    }

    /** The call answers this and leaves what the other scene sets. */
    static void becomes(String what, Scene scene, Call call, long want, Scene like) {
        answers(what, scene, call, want);
        leaves(what, scene, call, like);
    }

    static void keeps(String what, Scene scene, Call call, long want) {
        becomes(what, scene, call, want, scene);
    }

    /** The call throws nothing and leaves what the other scene sets. */
    static void accepts(String what, Scene scene, Scene call, Scene like) {
        becomes(what, scene, done(call), 0, like);
    }

    /** The call throws this, and leaves what the other scene sets. */
    static void breaks(String what, Scene scene, Scene call,
            Class<? extends RuntimeException> want, Scene like) {
        equal(what, seen(scene, x -> outcome(x, done(call))), want.getSimpleName());
        leaves(what, scene, done(call), like);
    }

    static void refuses(String what, Scene scene, Scene call,
            Class<? extends RuntimeException> want) {
        breaks(what, scene, call, want, scene);
    }

    static void shows(String what, Scene scene, String want) {
        equal(what, seen(scene, x -> State.of(x)), want);
    }

    static void objects(String what, Scene scene, String want) {
        equal(what, seen(scene, x -> State.objects(x)), want);
    }

    static void object(String what, Scene scene, int o, String want) {
        equal(what + ", object " + o, seen(scene, x -> State.object(x, o)), want);
    }

    static void bytes(String what, Scene scene, int... want) {
        equal(what, seen(scene, x -> State.bytes(x)), text(want));
    }

    /** The value is written as these bytes. */
    static void writes(String what, Scene scene, int kind, int v, int... want) {
        answers(what, scene, x -> x.write(kind, v), want.length);
        bytes(what, then(scene, x -> x.write(kind, v)), want);
    }

    /** These bytes are read as a value of this kind and number, and these are the objects then. */
    static void reads(String what, Scene scene, int kind, int number, String objects, int... bytes) {
        Scene fed = then(scene, x -> Check.fill(x, bytes));
        answers(what + ": " + text(bytes), fed, x -> x.read(), kind);
        Scene done = then(fed, x -> x.read());
        answers(what + ": " + text(bytes) + ", found()", done, x -> x.found(), number);
        objects(what + ": " + text(bytes), done, objects);
        bytes(what + ": " + text(bytes), done, bytes);
    }

    static void wrong(String what, Scene scene, int... bytes) {
        refuses(what + ": " + text(bytes), then(scene, x -> Check.fill(x, bytes)), x -> x.read(), ARGUMENT);
    }

    static long bool(boolean answer) {
        return answer ? 1 : 0;
    }

    private static Call done(Scene call) {
        return x -> {
            call.set(x);
            return 0;
        };
    }

    private static void leaves(String what, Scene scene, Call call, Scene like) {
        Scene called = then(scene, x -> outcome(x, call));
        for (Look look : LOOKS) {
            equal(what + ", what it leaves", seen(called, look), seen(like, look));
        }
    }

    /** A scene that can't be set is told, too, so that the other tests still run. */
    private static String seen(Scene scene, Look look) {
        CopiedGraphs x = new CopiedGraphs();
        try {
            scene.set(x);
            return look.at(x);
        } catch (RuntimeException e) {
            return "the scene throws " + e;
        }
    }

    private static String outcome(CopiedGraphs x, Call call) {
        try {
            return "" + call.on(x);
        } catch (RuntimeException e) {
            return e.getClass().getSimpleName();
        }
    }

    private static long readNull(CopiedGraphs x) {
        Check.fill(x, 15, 1);
        return x.read();
    }

    private static String text(int... bytes) {
        StringBuilder text = new StringBuilder();
        for (int i = 0; i < bytes.length; i++) {
            text.append(i == 0 ? "" : " ").append(bytes[i]);
        }
        return text.toString();
    }

    private static void equal(String what, String got, String want) {
        Check.same(sentence + what, got, want);
    }
}

import java.util.NoSuchElementException;

/** What the project's tests share: answers that are due, calls that must throw, bytes as a whole. */
final class Check {
    /** A call, whatever it answers. */
    interface Deed {
        void run();
    }

    private static int calls = 0;
    private static int wrong = 0;

    private Check() {
    }

    static void due(String what, long got, long want) {
        calls++;
        if (got != want) {
            report(what + " answered " + got + ", due is " + want);
        }
    }

    static void same(String what, String got, String want) {
        calls++;
        if (!got.equals(want)) {
            int from = Math.max(0, firstDifference(got, want) - 40);
            report(what + " is .. " + shortened(got, from) + ", due is .. " + shortened(want, from));
        }
    }

    private static int firstDifference(String got, String want) {
        int i = 0;
        while (i < got.length() && i < want.length() && got.charAt(i) == want.charAt(i)) {
            i++;
        }
        return i;
    }

    private static String shortened(String text, int from) {
        return text.substring(from, Math.min(text.length(), from + 120));
    }

    static void yes(String what, boolean got) {
        due(what, got ? 1 : 0, 1);
    }

    static void no(String what, boolean got) {
        due(what, got ? 1 : 0, 0);
    }

    static void refuses(String what, Deed deed, Class<? extends RuntimeException> want) {
        calls++;
        Class<?> got = null;
        try {
            deed.run();
        } catch (RuntimeException e) {
            got = e.getClass();
        }
        if (got != want) {
            report(what + " threw " + got + ", due is " + want);
        }
    }

    static void badArgument(String what, Deed deed) {
        refuses(what, deed, IllegalArgumentException.class);
    }

    static void badState(String what, Deed deed) {
        refuses(what, deed, IllegalStateException.class);
    }

    static void noPart(String what, Deed deed) {
        refuses(what, deed, IndexOutOfBoundsException.class);
    }

    static void harmed(String what, Deed deed) {
        refuses(what, deed, NoSuchElementException.class);
    }

    /** All bytes are these, and no others. */
    static void bytes(String what, CopiedGraphs x, int... want) {
        for (int k = 0; k < want.length; k++) {
            due(what + ", byte " + k, x.byteAt(k), want[k]);
        }
        due(what + ", byte " + want.length, x.byteAt(want.length), CopiedGraphs.NONE);
    }

    /** Writing answers how many bytes there are, and these they are. */
    static void written(String what, CopiedGraphs x, int kind, int v, int... want) {
        due(what, x.write(kind, v), want.length);
        bytes(what, x, want);
    }

    /** The bytes become these; eight are fed at once, since an object has 512 calls. */
    static void fill(CopiedGraphs x, int... bytes) {
        x.wipe();
        for (int from = 0; from < bytes.length; from += 8) {
            int count = Math.min(8, bytes.length - from);
            long word = 0;
            for (int i = 0; i < count; i++) {
                word |= (long) bytes[from + i] << (8 * i);
            }
            x.feed(word, count);
        }
    }

    /** These bytes are read, as a value of this kind and number. */
    static void reads(String what, CopiedGraphs x, int kind, int number, int... bytes) {
        fill(x, bytes);
        due(what, x.read(), kind);
        due(what + ", found()", x.found(), number);
    }

    /** These bytes are wrong, and reading them leaves everything as it was. */
    static void wrongBytes(String what, CopiedGraphs x, int... bytes) {
        fill(x, bytes);
        int objects = x.objects();
        int holders = x.holders();
        int found = x.found();
        badArgument(what, () -> x.read());
        due(what + ", objects()", x.objects(), objects);
        due(what + ", holders()", x.holders(), holders);
        due(what + ", found()", x.found(), found);
        bytes(what, x, bytes);
    }

    /** The value of a part: its key, kind and number. */
    static void part(String what, CopiedGraphs x, int o, int k, long key, long kind, long number) {
        due(what + ", key " + k, x.get(o, k, 0), key);
        due(what + ", kind " + k, x.get(o, k, 1), kind);
        due(what + ", number " + k, x.get(o, k, 2), number);
    }

    static void report(String text) {
        wrong++;
        if (wrong <= 50) {
            System.out.println(text);
        }
    }

    static void end() {
        System.out.println(calls + " answers looked at, " + wrong + " not as due");
        if (wrong != 0 || calls == 0) {
            System.exit(1);
        }
    }
}

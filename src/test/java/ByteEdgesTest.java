/** The edges in promises 21 to 24, and of how long an object is used. */
public final class ByteEdgesTest {
    private static final int NONE = CopiedGraphs.NONE;
    private static final int MIN = Integer.MIN_VALUE;
    private static final int MAX = Integer.MAX_VALUE;

    public static void main(String[] args) {
        feedBytes();
        feedWrongCount();
        feedMoreThan300();
        feedBehind();
        wipe();
        spoil();
        spoilLowestBits();
        byteAt();
        bytesAlone();
        lastCalls();
        Check.end();
    }

    /** So many bytes 0, 1, 2 .. */
    private static Edge.Scene fed(int count) {
        int[] bytes = new int[count];
        for (int i = 0; i < count; i++) {
            bytes[i] = i & 255;
        }
        return x -> Check.fill(x, bytes);
    }

    private static void feedBytes() {
        Edge.sentence("feed: Puts the n lowest bytes of w, the lowest first, behind the bytes: how many "
            + "there are then.");
        long w = 0x8007060504030201L;
        int[] all = {1, 2, 3, 4, 5, 6, 7, 128};
        for (int n = 1; n <= 8; n++) {
            int count = n;
            Edge.answers("feed of " + n, Edge.NEW, x -> x.feed(w, count), n);
            Edge.bytes("feed of " + n, x -> x.feed(w, count), java.util.Arrays.copyOf(all, n));
            Edge.answers("behind three", fed(3), x -> x.feed(w, count), 3 + n);
        }
        Edge.bytes("-1", x -> x.feed(-1, 2), 255, 255);
        Edge.bytes("MIN", x -> x.feed(Long.MIN_VALUE, 8), 0, 0, 0, 0, 0, 0, 0, 128);
    }

    private static void feedWrongCount() {
        Edge.sentence("feed: NONE, changing nothing, when n is not 1 .. 8");
        for (int n : new int[] {MIN, -8, -1, 0, 9, 10, MAX}) {
            Edge.keeps("feed of " + n, Edge.NEW, x -> x.feed(1, n), NONE);
            Edge.keeps("feed of " + n, fed(3), x -> x.feed(1, n), NONE);
            Edge.keeps("feed of " + n, fed(300), x -> x.feed(1, n), NONE);
        }
    }

    private static void feedMoreThan300() {
        Edge.sentence("feed: NONE, changing nothing, when .. there would be more than 300");
        for (int n = 1; n <= 8; n++) {
            int count = n;
            Edge.answers("299", fed(299 - n), x -> x.feed(1, count), 299);
            Edge.answers("300", fed(300 - n), x -> x.feed(1, count), 300);
            Edge.keeps("301", fed(301 - n), x -> x.feed(1, count), NONE);
            Edge.keeps("302", fed(Math.min(300, 302 - n)), x -> x.feed(1, count), NONE);
        }
        Edge.becomes("the last one", fed(299), x -> x.feed(299, 1), 300, fed(300));
    }

    private static void feedBehind() {
        Edge.sentence("feed: behind the bytes");
        Edge.bytes("behind those that were written", x -> {
            x.write(4, 5);
            x.feed(9, 1);
        }, 15, 4, 10, 9);
        Edge.bytes("behind none, when they were wiped", x -> {
            x.write(4, 5);
            x.wipe();
            x.feed(9, 1);
        }, 9);
    }

    private static void wipe() {
        Edge.sentence("wipe: There are no bytes any more: how many there were.");
        for (int count : new int[] {0, 1, 299, 300}) {
            Edge.becomes("of " + count, fed(count), x -> x.wipe(), count, Edge.NEW);
            Edge.answers("once more", Edge.then(fed(count), x -> x.wipe()), x -> x.wipe(), 0);
            Edge.answers("room again", Edge.then(fed(count), x -> x.wipe()), x -> x.feed(1, 8), 8);
        }
        Edge.Scene all = Edge.then(Scenes.EACH, x -> {
            x.pass(4);
            x.write(4, 5);
            x.pass(0);
        });
        Edge.answers("written ones", all, x -> x.wipe(), 3);
        Edge.shows("the rest stays", Edge.then(all, x -> x.wipe()), "bytes[] holders 1 found 0 objects["
            + "record(), list(), map(), set(), detached, view(4 unit 2 from 0 count 1), stamp(-6), actor]");
        Edge.answers("what is passed stays", Edge.then(all, x -> x.wipe()), x -> x.pass(0), 2);
    }

    private static void spoil() {
        Edge.sentence("spoil: Byte k becomes ..: true; false when there is none such.");
        for (int count : new int[] {1, 2, 299, 300}) {
            int last = count - 1;
            Edge.answers("the first", fed(count), x -> Edge.bool(x.spoil(0, 77)), 1);
            Edge.answers("the first", Edge.then(fed(count), x -> x.spoil(0, 77)), x -> x.byteAt(0), 77);
            Edge.answers("the last", fed(count), x -> Edge.bool(x.spoil(last, 77)), 1);
            Edge.answers("the last", Edge.then(fed(count), x -> x.spoil(last, 77)), x -> x.byteAt(last), 77);
            for (int k : new int[] {MIN, -1, count, count + 1, 301, MAX}) {
                Edge.keeps("byte " + k, fed(count), x -> Edge.bool(x.spoil(k, 77)), 0);
            }
        }
        Edge.keeps("of none", Edge.NEW, x -> Edge.bool(x.spoil(0, 77)), 0);
        Edge.keeps("wiped ones", Edge.then(fed(9), x -> x.wipe()), x -> Edge.bool(x.spoil(0, 77)), 0);
        Edge.bytes("no others", Edge.then(fed(4), x -> x.spoil(2, 77)), 0, 1, 77, 3);
    }

    private static void spoilLowestBits() {
        Edge.sentence("spoil: the lowest eight bits of v");
        int[][] pairs = {{0, 0}, {1, 1}, {127, 127}, {128, 128}, {255, 255}, {256, 0}, {257, 1}, {511, 255},
            {-1, 255}, {-128, 128}, {-255, 1}, {-256, 0}, {-257, 255}, {MIN, 0}, {MAX, 255}, {0x12345678, 0x78}};
        for (int[] p : pairs) {
            Edge.answers("" + p[0], fed(3), x -> Edge.bool(x.spoil(1, p[0])), 1);
            Edge.bytes("" + p[0], Edge.then(fed(3), x -> x.spoil(1, p[0])), 0, p[1], 2);
        }
    }

    private static void byteAt() {
        Edge.sentence("byteAt: Byte k; NONE when there is none such.");
        for (int count : new int[] {1, 2, 299, 300}) {
            Edge.keeps("the first", fed(count), x -> x.byteAt(0), 0);
            Edge.keeps("the last", fed(count), x -> x.byteAt(count - 1), (count - 1) & 255);
            for (int k : new int[] {MIN, -1, count, count + 1, 301, MAX}) {
                Edge.keeps("byte " + k, fed(count), x -> x.byteAt(k), NONE);
            }
        }
        Edge.keeps("of none", Edge.NEW, x -> x.byteAt(0), NONE);
        Edge.keeps("wiped ones", Edge.then(fed(9), x -> x.wipe()), x -> x.byteAt(0), NONE);
        Edge.keeps("behind written ones", Edge.then(fed(9), x -> x.write(1, 0)), x -> x.byteAt(2), NONE);
        Edge.keeps("255 is not NONE", x -> x.feed(-1, 1), x -> x.byteAt(0), 255);
    }

    private static void bytesAlone() {
        Edge.sentence("feed, spoil: nothing but the bytes is changed");
        Edge.Scene all = Edge.then(Scenes.EACH, x -> {
            x.pass(4);
            x.write(4, 5);
            x.pass(0);
        });
        Edge.becomes("feed", all, x -> x.feed(0x0201, 2), 5, Edge.then(all, x -> {
            Check.fill(x, 15, 4, 10, 1, 2);
        }));
        Edge.becomes("spoil", all, x -> Edge.bool(x.spoil(1, 5)), 1, Edge.then(all, x -> {
            Check.fill(x, 15, 5, 10);
        }));
    }

    private static void lastCalls() {
        Edge.sentence("An object is used for at most 512 calls after it has been made");
        CopiedGraphs x = new CopiedGraphs();
        for (int round = 0; round < 51; round++) {
            x.make(1);
            x.put(0, 0, 4, round);
            x.buffer(round, 1);
            x.pass(1);
            x.put(0, 7, 6, 1);
            x.write(6, 0);
            Check.due("holders", x.holders(), 1);
            Check.due("read", x.read(), 6);
            Check.due("found", x.found(), 3);
            Check.due("clear", x.clear(), 4);
        }
        Check.due("the 511th call", x.wipe(), 15);
        Check.due("the 512th call", x.feed(7, 1), 1);
    }
}

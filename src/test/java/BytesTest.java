/** Promises 21 to 24: the bytes themselves. */
public final class BytesTest {
    private static final int NONE = CopiedGraphs.NONE;
    private static final int MIN = Integer.MIN_VALUE;
    private static final int MAX = Integer.MAX_VALUE;

    public static void main(String[] args) {
        feed();
        feedToTheLimit();
        wipe();
        spoil();
        Check.end();
    }

    private static void feed() {
        CopiedGraphs x = new CopiedGraphs();
        for (int n : new int[] {0, -1, 9, MIN, MAX}) {
            Check.due("21: feed of " + n, x.feed(-1L, n), NONE);
        }
        Check.bytes("21: nothing fed", x);
        Check.due("21: feed", x.feed(0x80FF017FL, 3), 3);
        Check.due("21: feed", x.feed(0xF1E2D3C4B5A69788L, 8), 11);
        Check.due("21: feed", x.feed(-1L, 1), 12);
        Check.bytes("21: fed", x, 0x7F, 1, 0xFF,
            0x88, 0x97, 0xA6, 0xB5, 0xC4, 0xD3, 0xE2, 0xF1, 0xFF);
        for (int k : new int[] {12, -1, 299, 300, MIN, MAX}) {
            Check.due("24: no byte " + k, x.byteAt(k), NONE);
        }
    }

    private static void feedToTheLimit() {
        CopiedGraphs x = new CopiedGraphs();
        for (int i = 1; i <= 37; i++) {
            Check.due("21: feed", x.feed(i, 8), 8 * i);
        }
        Check.due("21: more than 300", x.feed(0x0807060504030201L, 5), NONE);
        Check.due("24: nothing came", x.byteAt(296), NONE);
        Check.due("21: 299", x.feed(0x030201L, 3), 299);
        Check.due("21: more than 300", x.feed(7L, 2), NONE);
        Check.due("21: 300", x.feed(7L, 1), 300);
        Check.due("21: more than 300", x.feed(7L, 1), NONE);
        Check.due("24: the last byte", x.byteAt(299), 7);
        Check.due("24: behind it", x.byteAt(300), NONE);
        Check.yes("23: the last byte", x.spoil(299, 8));
        Check.due("24: spoilt", x.byteAt(299), 8);
        Check.no("23: behind it", x.spoil(300, 8));
        Check.due("22: wipe", x.wipe(), 300);
    }

    private static void wipe() {
        CopiedGraphs x = new CopiedGraphs();
        x.make(0);
        x.feed(0x0F, 2);
        Check.due("22: wipe", x.wipe(), 2);
        Check.due("22: wipe again", x.wipe(), 0);
        Check.due("24: no byte", x.byteAt(0), NONE);
        Check.no("23: no byte", x.spoil(0, 1));
        Check.due("22: objects stay", x.objects(), 1);
        Check.badArgument("22: nothing to read", () -> x.read());
        Check.due("21: feed again", x.feed(9, 1), 1);
        Check.due("24: the new byte", x.byteAt(0), 9);
    }

    private static void spoil() {
        CopiedGraphs x = new CopiedGraphs();
        x.feed(0x030201, 3);
        Check.yes("23: spoil", x.spoil(1, 0x1FE));
        Check.yes("23: spoil", x.spoil(2, -1));
        Check.yes("23: spoil", x.spoil(0, MIN));
        Check.bytes("23: spoilt", x, 0, 0xFE, 0xFF);
        for (int k : new int[] {3, -1, MIN, MAX}) {
            Check.no("23: no byte " + k, x.spoil(k, 5));
        }
        Check.bytes("23: nothing more", x, 0, 0xFE, 0xFF);
    }
}

/** Objects that several tests begin with. */
final class Scenes {
    /** Record 0, list 1, map 2 and set 3, all empty. */
    static final Edge.Scene FOUR = x -> {
        for (int type = 0; type < 4; type++) {
            x.make(type);
        }
    };

    /** An object of each type, its number being its type; the view is of two of the three bytes. */
    static final Edge.Scene EACH = Edge.then(FOUR, x -> {
        x.buffer(0x030201, 3);
        x.view(4, 2, 0, 1);
        x.stamp(-6);
        x.make(7);
    });

    static CopiedGraphs made(Edge.Scene scene) {
        CopiedGraphs x = new CopiedGraphs();
        scene.set(x);
        return x;
    }

    /** Record 0 with the keys 0, 1, 2 .. */
    static Edge.Scene record(int properties) {
        return x -> {
            x.make(0);
            for (int key = 0; key < properties; key++) {
                x.put(0, key, 1, 0);
            }
        };
    }

    /** So many more objects, records. */
    static Edge.Scene more(int count) {
        return x -> {
            for (int i = 0; i < count; i++) {
                x.make(0);
            }
        };
    }

    /** Buffers 0, 1, 2 .. with a byte 1, 2, 3 .. each. */
    static Edge.Scene buffers(int count) {
        return x -> {
            for (int i = 0; i < count; i++) {
                x.buffer(i + 1, 1);
            }
        };
    }

    /** Lists 0, 1, 2 .. each in the one before it: the last one stands at this depth. */
    static Edge.Scene nest(int depth) {
        return x -> {
            for (int i = 0; i < depth; i++) {
                x.make(1);
                if (i > 0) {
                    x.put(i - 1, 0, 6, i);
                }
            }
        };
    }

    /** List 0, whose writing takes this many bytes (from 200 to 330), its last place free. */
    static Edge.Scene listOfLength(int bytes) {
        return x -> {
            x.make(1);
            int left = bytes - 3;
            for (int i = 0; i < 7; i++) {
                int list = x.make(1);
                x.put(0, i, 6, list);
                left -= 3;
                for (int k = 0; k < 8; k++) {
                    int part = Math.min(7, left - (7 - k) - (6 - i) * 11);
                    fillPlace(x, list, k, part);
                    left -= Math.max(part, 1);
                }
            }
        };
    }

    /** Gives a place a value that takes this many bytes with its 1, or a hole. */
    private static void fillPlace(CopiedGraphs x, int list, int k, int bytes) {
        if (bytes <= 2) {
            x.put(list, k, 1, 0);
            if (bytes <= 1) {
                x.take(list, k);
            }
        } else {
            int[] texts = {0, 1, 0x101, 0x10101, 0x1010101};
            x.put(list, k, 5, texts[bytes - 3]);
        }
    }

    private Scenes() {
    }
}

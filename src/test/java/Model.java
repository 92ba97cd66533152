import java.io.ByteArrayOutputStream;
import java.math.BigInteger;
import java.util.ArrayList;
import java.util.Arrays;
import java.util.IdentityHashMap;
import java.util.LinkedHashMap;
import java.util.List;
import java.util.Map;
import java.util.NoSuchElementException;

/** The document once more, written with the Java library and no care for room or speed. */
final class Model {
    private static final class Impossible extends RuntimeException {
        private static final long serialVersionUID = 1;
    }

    record Value(int kind, int number) {
        static Value of(int kind, int number) {
            return new Value(kind, kind >= 0 && kind <= 3 ? 0 : number);
        }
    }

    private static final class Node {
        final int type;
        final Map<Integer, Value> properties = new LinkedHashMap<>();
        final List<Value> places = new ArrayList<>();
        final Map<Value, Value> entries = new LinkedHashMap<>();
        int[] bytes = {};
        Node viewed;
        int unit;
        int from;
        int count;
        long stamp;

        Node(int type) {
            this.type = type;
        }

        List<Integer> orderedKeys() {
            List<Integer> keys = new ArrayList<>();
            properties.keySet().stream().filter(k -> k >= 0).sorted().forEach(keys::add);
            properties.keySet().stream().filter(k -> k < 0).forEach(keys::add);
            return keys;
        }
    }

    private List<Node> nodes = new ArrayList<>();
    private List<Node> passed = new ArrayList<>();
    private List<int[]> holders = new ArrayList<>();
    private List<Integer> bytes = new ArrayList<>();
    private int found = 0;

    private Node node(int o) {
        return o >= 0 && o < nodes.size() ? nodes.get(o) : null;
    }

    private boolean is(int o, int type) {
        return node(o) != null && node(o).type == type;
    }

    private static void argument(boolean good) {
        if (!good) {
            throw new IllegalArgumentException();
        }
    }

    private static void state(boolean good) {
        if (!good) {
            throw new IllegalStateException();
        }
    }

    private boolean isValue(int kind, int v) {
        if (kind == 5) {
            int[] row = lowest(v, textLength(v));
            return Arrays.stream(row).allMatch(b -> b != 0);
        }
        return kind == 6 ? node(v) != null : kind >= 0 && kind <= 7;
    }

    /** Up to the last byte that is not 0. */
    private static int textLength(int v) {
        return (39 - Integer.numberOfLeadingZeros(v)) / 8;
    }

    private int keep(Node made) {
        nodes.add(made);
        return nodes.size() - 1;
    }

    private static int[] lowest(long w, int n) {
        int[] row = new int[n];
        for (int i = 0; i < n; i++) {
            row[i] = (int) ((w >> (8 * i)) & 0xFF);
        }
        return row;
    }

    int make(int type) {
        argument(List.of(0, 1, 2, 3, 7).contains(type));
        state(nodes.size() < 32);
        return keep(new Node(type));
    }

    int buffer(long w, int n) {
        argument(n >= 0 && n <= 8);
        state(nodes.size() < 32);
        Node made = new Node(4);
        made.bytes = lowest(w, n);
        return keep(made);
    }

    private static boolean lies(Node buffer, long unit, long from, long count) {
        return buffer.type == 4 && buffer.bytes != null && List.of(1L, 2L, 4L).contains(unit)
            && from >= 0 && count >= 0 && from % unit == 0
            && from + unit * count <= buffer.bytes.length;
    }

    int view(int b, int unit, int from, int count) {
        argument(node(b) != null && lies(node(b), unit, from, count));
        state(nodes.size() < 32);
        return keep(newView(node(b), unit, from, count));
    }

    private static Node newView(Node buffer, int unit, int from, int count) {
        Node made = new Node(5);
        made.viewed = buffer;
        made.unit = unit;
        made.from = from;
        made.count = count;
        return made;
    }

    int stamp(long v) {
        state(nodes.size() < 32);
        Node made = new Node(6);
        made.stamp = v;
        return keep(made);
    }

    void put(int o, int key, int kind, int v) {
        argument(is(o, 0) || is(o, 1));
        if (is(o, 0)) {
            argument(kind == 8 || isValue(kind, v));
            Map<Integer, Value> properties = node(o).properties;
            state(properties.containsKey(key) || properties.size() < 6);
            properties.put(key, Value.of(kind, v));
            return;
        }
        argument(isValue(kind, v) && key >= 0 && key <= 7);
        List<Value> places = node(o).places;
        while (places.size() <= key) {
            places.add(null);
        }
        places.set(key, Value.of(kind, v));
    }

    boolean take(int o, int key) {
        argument(is(o, 0) || is(o, 1));
        if (is(o, 0)) {
            return node(o).properties.remove(key) != null;
        }
        if (key < 0 || key >= node(o).places.size()) {
            return false;
        }
        node(o).places.set(key, null);
        return true;
    }

    void entry(int o, int keyKind, int key, int kind, int v) {
        argument(is(o, 2) && isValue(keyKind, key) && isValue(kind, v));
        Map<Value, Value> entries = node(o).entries;
        state(entries.containsKey(Value.of(keyKind, key)) || entries.size() < 4);
        entries.put(Value.of(keyKind, key), Value.of(kind, v));
    }

    boolean add(int o, int kind, int v) {
        argument(is(o, 3) && isValue(kind, v));
        if (node(o).places.contains(Value.of(kind, v))) {
            return false;
        }
        state(node(o).places.size() < 5);
        return node(o).places.add(Value.of(kind, v));
    }

    boolean detach(int o) {
        if (!is(o, 4) || node(o).bytes == null) {
            return false;
        }
        node(o).bytes = null;
        return true;
    }

    int clear() {
        int there = nodes.size();
        nodes.clear();
        passed.clear();
        holders.clear();
        return there;
    }

    int objects() {
        return nodes.size();
    }

    int type(int o) {
        return node(o) == null ? -1 : node(o).type;
    }

    int size(int o) {
        Node n = node(o);
        switch (type(o)) {
            case 0:
                return n.properties.size();
            case 1:
            case 3:
                return n.places.size();
            case 2:
                return n.entries.size();
            case 4:
                return n.bytes == null ? -1 : n.bytes.length;
            case 5:
                return n.count;
            default:
                return -1;
        }
    }

    long get(int o, int k, int what) {
        Node n = node(o);
        if (n == null || n.type == 7) {
            throw new IndexOutOfBoundsException();
        }
        if (n.type == 6 && k == 0 && what == 0) {
            return n.stamp;
        }
        if (n.type == 5 && k == 0 && what >= 0 && what <= 3) {
            return new int[] {nodes.indexOf(n.viewed), n.unit, n.from, n.count}[what];
        }
        if (n.type == 5 || n.type == 6 || k < 0 || k >= size(o)) {
            throw new IndexOutOfBoundsException();
        }
        List<long[]> parts = new ArrayList<>();
        n.orderedKeys().forEach(key -> parts.add(row(key, n.properties.get(key))));
        n.entries.forEach((key, v) -> parts.add(new long[] {key.number, v.kind, v.number, key.kind}));
        n.places.forEach(v -> parts.add(row(k, v)));
        if (n.type == 4) {
            return new long[] {k, 4, n.bytes[k]}[what < 0 || what > 2 ? outOfBounds() : what];
        }
        long[] part = parts.get(k);
        return part[what < 0 || what >= part.length ? outOfBounds() : what];
    }

    private static long[] row(long key, Value v) {
        return v == null ? new long[] {key, -1, 0} : new long[] {key, v.kind, v.number};
    }

    private static int outOfBounds() {
        throw new IndexOutOfBoundsException();
    }

    int pass(int o) {
        argument(node(o) != null);
        state(passed.size() < 4);
        passed.add(node(o));
        return passed.size();
    }

    int holders() {
        return holders.size();
    }

    int write(int kind, int v) {
        List<Node> handed = passed;
        passed = new ArrayList<>();
        argument(isValue(kind, v));
        ByteArrayOutputStream out = new ByteArrayOutputStream();
        try {
            for (Node n : handed) {
                possible(n.type == 4 && n.bytes != null);
            }
            possible(handed.stream().distinct().count() == handed.size());
            emit(out, 15);
            writeValue(out, handed, new IdentityHashMap<>(), Value.of(kind, v), 1);
            for (Node n : handed) {
                possible(n.bytes != null);
            }
        } catch (Impossible e) {
            throw new IllegalArgumentException();
        }
        bytes = new ArrayList<>();
        for (byte b : out.toByteArray()) {
            bytes.add(b & 0xFF);
        }
        holders = new ArrayList<>();
        for (Node n : handed) {
            holders.add(n.bytes);
            n.bytes = null;
        }
        return bytes.size();
    }

    private static void possible(boolean good) {
        if (!good) {
            throw new Impossible();
        }
    }

    private static void emit(ByteArrayOutputStream out, int... row) {
        for (int b : row) {
            possible(out.size() < 300);
            out.write(b);
        }
    }

    private static void emitLengthy(ByteArrayOutputStream out, BigInteger n) {
        BigInteger base = BigInteger.valueOf(128);
        while (n.compareTo(base) >= 0) {
            emit(out, 128 + n.mod(base).intValue());
            n = n.divide(base);
        }
        emit(out, n.intValue());
    }

    private static BigInteger zigzag(long n) {
        BigInteger twice = BigInteger.valueOf(n).multiply(BigInteger.TWO);
        return n >= 0 ? twice : twice.negate().subtract(BigInteger.ONE);
    }

    private void writeValue(ByteArrayOutputStream out, List<Node> handed,
            Map<Node, Integer> row, Value v, int depth) {
        possible(depth <= 12);
        possible(v.kind != 7);
        if (v.kind < 6) {
            emit(out, v.kind);
        }
        if (v.kind == 4) {
            emitLengthy(out, zigzag(v.number));
        }
        if (v.kind == 5) {
            emit(out, textLength(v.number));
            emit(out, lowest(v.number, textLength(v.number)));
        }
        if (v.kind != 6) {
            return;
        }
        Node n = node(v.number);
        if (row.containsKey(n)) {
            emit(out, 6);
            emitLengthy(out, BigInteger.valueOf(row.get(n)));
        } else if (handed.contains(n)) {
            emit(out, 7, handed.indexOf(n));
        } else {
            writeNode(out, handed, row, n, depth + 1);
        }
    }

    private void writeNode(ByteArrayOutputStream out, List<Node> handed,
            Map<Node, Integer> row, Node n, int depth) {
        possible(n.type != 7 && n.bytes != null);
        emit(out, 8 + n.type);
        if (n.type == 5) {
            emit(out, n.unit, n.from, n.count);
            writeValue(out, handed, row, new Value(6, nodes.indexOf(n.viewed)), depth);
        }
        row.put(n, row.size());
        if (n.type == 0) {
            for (int key : n.orderedKeys()) {
                if (n.properties.containsKey(key)) {
                    Value v = n.properties.get(key);
                    Value answer = v.kind == 8 ? runGetter(n, v.number) : v;
                    emit(out, 1);
                    emitLengthy(out, zigzag(key));
                    writeValue(out, handed, row, answer, depth);
                }
            }
            emit(out, 0);
        } else if (n.type == 1 || n.type == 3) {
            emit(out, n.places.size());
            for (Value v : n.places) {
                if (n.type == 1) {
                    emit(out, v == null ? 0 : 1);
                }
                if (v != null) {
                    writeValue(out, handed, row, v, depth);
                }
            }
        } else if (n.type == 2) {
            emit(out, n.entries.size());
            for (Map.Entry<Value, Value> e : n.entries.entrySet()) {
                writeValue(out, handed, row, e.getKey(), depth);
                writeValue(out, handed, row, e.getValue(), depth);
            }
        } else if (n.type == 4) {
            emit(out, n.bytes.length);
            emit(out, n.bytes);
        } else if (n.type == 6) {
            emitLengthy(out, zigzag(n.stamp));
        }
    }

    private Value runGetter(Node record, int number) {
        int argument = (int) Math.floor(number / 8.0);
        int action = number - 8 * argument;
        if (action == 1) {
            throw new NoSuchElementException();
        }
        if (action == 2) {
            record.properties.remove(argument);
        }
        if (action == 3 && record.properties.size() < 6) {
            record.properties.putIfAbsent(argument, new Value(4, 7));
        }
        if (action == 4) {
            detach(argument);
        }
        return new Value(4, argument);
    }

    private List<Integer> left;
    private List<Node> made;
    private int handedFirst;
    private int rowFirst;

    int read() {
        left = new ArrayList<>(bytes);
        made = new ArrayList<>(nodes);
        handedFirst = made.size();
        Value v;
        try {
            for (int[] row : holders) {
                Node buffer = new Node(4);
                buffer.bytes = row;
                made.add(buffer);
            }
            rowFirst = made.size();
            possible(next() == 15);
            v = readValue(1);
            possible(left.isEmpty() && made.size() <= 32);
        } catch (Impossible e) {
            throw new IllegalArgumentException();
        }
        nodes = made;
        holders = new ArrayList<>();
        found = v.number;
        return v.kind;
    }

    private int next() {
        possible(!left.isEmpty());
        return left.remove(0);
    }

    private int nextUpTo(int most) {
        int b = next();
        possible(b <= most);
        return b;
    }

    private BigInteger nextLengthy() {
        BigInteger sum = BigInteger.ZERO;
        for (int shift = 0;; shift += 7) {
            int b = next();
            sum = sum.add(BigInteger.valueOf(b & 127).shiftLeft(shift));
            if (b < 128) {
                possible(b != 0 || shift == 0);
                return sum;
            }
        }
    }

    private long nextZigzag(int bits) {
        BigInteger n = nextLengthy();
        possible(n.bitLength() <= bits);
        BigInteger half = n.shiftRight(1);
        return (n.testBit(0) ? half.negate().subtract(BigInteger.ONE) : half).longValueExact();
    }

    private Value nextPlace(int first, int end) {
        BigInteger place = nextLengthy();
        possible(place.compareTo(BigInteger.valueOf(end - first)) < 0);
        return new Value(6, first + place.intValue());
    }

    private Value readValue(int depth) {
        possible(depth <= 12);
        int mark = nextUpTo(14);
        if (mark < 4) {
            return new Value(mark, 0);
        }
        if (mark == 4) {
            return new Value(4, (int) nextZigzag(32));
        }
        if (mark == 5) {
            int text = 0;
            int n = nextUpTo(4);
            for (int i = 0; i < n; i++) {
                int b = next();
                possible(b != 0);
                text += b << (8 * i);
            }
            return new Value(5, text);
        }
        if (mark == 6) {
            return nextPlace(rowFirst, made.size());
        }
        if (mark == 7) {
            return nextPlace(handedFirst, rowFirst);
        }
        if (mark == 13) {
            return readView(depth + 1);
        }
        Node n = new Node(mark - 8);
        made.add(n);
        Value itself = new Value(6, made.size() - 1);
        readParts(n, depth + 1);
        return itself;
    }

    private Value readView(int depth) {
        int unit = next();
        int from = next();
        int count = next();
        Value v = readValue(depth);
        possible(v.kind == 6 && lies(made.get(v.number), unit, from, count));
        made.add(newView(made.get(v.number), unit, from, count));
        return new Value(6, made.size() - 1);
    }

    private void readParts(Node n, int depth) {
        if (n.type == 0) {
            while (nextUpTo(1) == 1) {
                int key = (int) nextZigzag(32);
                possible(n.properties.put(key, readValue(depth)) == null);
                possible(n.properties.size() <= 6);
            }
        } else if (n.type == 1) {
            for (int i = nextUpTo(8); i > 0; i--) {
                n.places.add(nextUpTo(1) == 0 ? null : readValue(depth));
            }
        } else if (n.type == 2) {
            for (int i = nextUpTo(4); i > 0; i--) {
                Value key = readValue(depth);
                possible(n.entries.put(key, readValue(depth)) == null);
            }
        } else if (n.type == 3) {
            for (int i = nextUpTo(5); i > 0; i--) {
                Value v = readValue(depth);
                possible(!n.places.contains(v));
                n.places.add(v);
            }
        } else if (n.type == 4) {
            int[] row = new int[nextUpTo(8)];
            for (int i = 0; i < row.length; i++) {
                row[i] = next();
            }
            n.bytes = row;
        } else {
            n.stamp = nextZigzag(64);
        }
    }

    int found() {
        return found;
    }

    int feed(long w, int n) {
        if (n < 1 || n > 8 || bytes.size() + n > 300) {
            return -1;
        }
        for (int b : lowest(w, n)) {
            bytes.add(b);
        }
        return bytes.size();
    }

    int wipe() {
        int there = bytes.size();
        bytes.clear();
        return there;
    }

    boolean spoil(int k, int v) {
        if (k < 0 || k >= bytes.size()) {
            return false;
        }
        bytes.set(k, v & 0xFF);
        return true;
    }

    int length() {
        return bytes.size();
    }

    int byteAt(int k) {
        return k < 0 || k >= bytes.size() ? -1 : bytes.get(k);
    }
}

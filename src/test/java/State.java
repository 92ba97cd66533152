/** What an object's calls tell of it, as text, so that two objects can be compared whole. */
final class State {
    private static final String[] TYPES = {"record", "list", "map", "set"};

    private State() {
    }

    static String of(CopiedGraphs x) {
        return "bytes[" + bytes(x) + "] holders " + x.holders() + " found " + x.found()
            + " objects[" + objects(x) + "]";
    }

    static String bytes(CopiedGraphs x) {
        StringBuilder text = new StringBuilder();
        int b = x.byteAt(0);
        for (int k = 1; b != CopiedGraphs.NONE; k++) {
            text.append(k == 1 ? "" : " ").append(b);
            b = x.byteAt(k);
        }
        return text.toString();
    }

    static String objects(CopiedGraphs x) {
        StringBuilder text = new StringBuilder();
        int count = x.objects();
        for (int o = 0; o < count; o++) {
            text.append(o == 0 ? "" : ", ").append(object(x, o));
        }
        return text.toString();
    }

    static String object(CopiedGraphs x, int o) {
        int type = x.type(o);
        switch (type) {
            case 4:
                return x.size(o) == CopiedGraphs.NONE ? "detached" : "buffer(" + bufferBytes(x, o) + ")";
            case 5:
                return "view(" + x.get(o, 0, 0) + " unit " + x.get(o, 0, 1) + " from " + x.get(o, 0, 2)
                    + " count " + x.get(o, 0, 3) + ")";
            case 6:
                return "stamp(" + x.get(o, 0, 0) + ")";
            case 7:
                return "actor";
            default:
                return TYPES[type] + "(" + parts(x, o, type) + ")";
        }
    }

    private static String bufferBytes(CopiedGraphs x, int o) {
        StringBuilder text = new StringBuilder();
        int size = x.size(o);
        for (int k = 0; k < size; k++) {
            text.append(k == 0 ? "" : " ").append(x.get(o, k, 2));
        }
        return text.toString();
    }

    /** A value is told as kind.number, behind a record's key or a map's. */
    private static String parts(CopiedGraphs x, int o, int type) {
        StringBuilder text = new StringBuilder();
        int size = x.size(o);
        for (int k = 0; k < size; k++) {
            text.append(k == 0 ? "" : " ");
            if (type == 2) {
                text.append(x.get(o, k, 3)).append('.');
            }
            if (type == 0 || type == 2) {
                text.append(x.get(o, k, 0)).append('=');
            }
            text.append(value(x.get(o, k, 1), x.get(o, k, 2)));
        }
        return text.toString();
    }

    private static String value(long kind, long number) {
        return kind == CopiedGraphs.NONE && number == 0 ? "hole" : kind + "." + number;
    }
}

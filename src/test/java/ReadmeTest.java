/** The example in README.md gives what its comments say. */
public final class ReadmeTest {
    public static void main(String[] args) {
        CopiedGraphs graphs = new CopiedGraphs();
        int record = graphs.make(0);
        int buffer = graphs.buffer(0x0201L, 2);
        graphs.put(record, 5, 4, -3);
        graphs.put(record, 6, 6, record);
        graphs.put(record, 7, 6, buffer);
        graphs.pass(buffer);
        int length = graphs.write(6, record);
        Check.due("the length", length, 15);
        Check.bytes("the bytes", graphs, 15, 8, 1, 10, 4, 5, 1, 12, 6, 0, 1, 14, 7, 0, 0);
        Check.due("the buffer is detached", graphs.size(buffer), CopiedGraphs.NONE);
        int kind = graphs.read();
        Check.due("the kind", kind, 6);
        int copy = graphs.found();
        Check.due("the copy", copy, 3);
        long key = graphs.get(copy, 0, 0);
        Check.due("the first key", key, 5);
        Check.due("its number", graphs.get(copy, 0, 2), -3);
        Check.due("the copy itself", graphs.get(copy, 1, 2), copy);
        long handed = graphs.get(copy, 2, 2);
        Check.due("the new buffer", handed, 2);
        Check.due("its second byte", graphs.get((int) handed, 1, 2), 2);
        Check.end();
    }
}

import java.util.Arrays;

/** The edges in the document's term MAKING ANEW, and in promises 19 and 20. */
public final class ReadEdgesTest {
    private static final int MIN = Integer.MIN_VALUE;
    private static final int MAX = Integer.MAX_VALUE;
    private static final Edge.Scene NEW = Edge.NEW;

    public static void main(String[] args) {
        holdersFirst();
        viewBehindItsBuffer();
        handedAsOften();
        handedPlaces();
        placesInTheRow();
        holdersAreGone();
        firstIsFifteen();
        whatComes();
        marksInRecordsAndLists();
        lengthyInts();
        lengthyKeys();
        lengthyLongs();
        lengthyPlaces();
        lengths();
        units();
        moreProperties();
        moreEntries();
        moreValues();
        morePlaces();
        moreOfAText();
        textBytes();
        keysTwice();
        entriesTwice();
        membersTwice();
        viewsInTheirBuffers();
        viewsOfNoBuffers();
        bytesWanting();
        bytesLeft();
        lastOf300();
        depth();
        depthOfSharedOnes();
        moreThan32();
        keysInAnyOrder();
        recordsAsKeys();
        objectsStay();
        kindOfTheValue();
        found();
        Check.end();
    }

    private static int[] join(int[] front, int... back) {
        int[] bytes = Arrays.copyOf(front, front.length + back.length);
        System.arraycopy(back, 0, bytes, front.length, back.length);
        return bytes;
    }

    private static int[] row(int... bytes) {
        return bytes;
    }

    /** Buffers 0, 1 .. with a byte 1, 2 .. that were handed over: so many holders there are. */
    private static Edge.Scene held(int count) {
        return Edge.then(Scenes.buffers(count), x -> {
            for (int i = 0; i < count; i++) {
                x.pass(i);
            }
            x.write(1, 0);
        });
    }

    private static void holdersFirst() {
        Edge.sentence("First, for each holder in order a buffer with its bytes is made, then the objects");
        Edge.reads("none", held(0), 6, 0, "stamp(0)", 15, 14, 0);
        Edge.reads("one", held(1), 6, 2, "detached, buffer(1), stamp(0)", 15, 14, 0);
        Edge.reads("four", held(4), 6, 8, "detached, detached, detached, detached, "
            + "buffer(1), buffer(2), buffer(3), buffer(4), stamp(0)", 15, 14, 0);
        Edge.reads("no objects", held(1), 1, 0, "detached, buffer(1)", 15, 1);
    }

    private static void viewBehindItsBuffer() {
        Edge.sentence("then the objects as they begin (a view behind its buffer)");
        Edge.reads("a view", NEW, 6, 1, "buffer(9), view(0 unit 1 from 0 count 1)",
            15, 13, 1, 0, 1, 12, 1, 9);
        Edge.reads("of a handed one", held(1), 6, 2, "detached, buffer(1), view(1 unit 1 from 0 count 1)",
            15, 13, 1, 0, 1, 7, 0);
        Edge.reads("its place is 2", NEW, 6, 0,
            "list(6.2 6.0 6.1 6.2), buffer(9), view(1 unit 1 from 0 count 1)",
            15, 9, 4, 1, 13, 1, 0, 1, 12, 1, 9, 1, 6, 0, 1, 6, 1, 1, 6, 2);
        Edge.reads("of one in the row", NEW, 6, 0, "list(6.1 6.2), buffer(), view(1 unit 4 from 0 count 0)",
            15, 9, 2, 1, 12, 0, 1, 13, 4, 0, 0, 6, 1);
        Edge.wrong("it has no place yet", NEW, 15, 9, 1, 1, 13, 1, 0, 0, 6, 1);
    }

    private static void handedAsOften() {
        Edge.sentence("7 and k is the k-th of those buffers (as often as it stands there, or never)");
        Edge.reads("never", held(2), 3, 0, "detached, detached, buffer(1), buffer(2)", 15, 3);
        Edge.reads("once", held(2), 6, 3, "detached, detached, buffer(1), buffer(2)", 15, 7, 1);
        Edge.reads("three times", held(2), 6, 4,
            "detached, detached, buffer(1), buffer(2), list(6.3 6.3 6.3)",
            15, 9, 3, 1, 7, 1, 1, 7, 1, 1, 7, 1);
    }

    private static void handedPlaces() {
        Edge.sentence("a place is none: 7 and k");
        Edge.wrong("of none", NEW, 15, 7, 0);
        for (int count = 1; count <= 4; count++) {
            int[] last = row(15, 7, count - 1);
            Edge.answers("the last of " + count, Edge.then(held(count), x -> Check.fill(x, last)),
                x -> x.read(), 6);
            Edge.wrong("behind it", held(count), 15, 7, count);
            Edge.wrong("far behind it", held(count), 15, 7, 127);
            Edge.wrong("far behind it", held(count), 15, 7, 128, 128, 128, 128, 16);
        }
        Edge.wrong("not in the row", held(1), 15, 6, 0);
    }

    private static void placesInTheRow() {
        Edge.sentence("6 and k the k-th object in the row of those that began; a place is none");
        Edge.wrong("of none", NEW, 15, 6, 0);
        Edge.wrong("of none, but there are objects", Scenes.FOUR, 15, 6, 0);
        Edge.reads("itself", NEW, 6, 0, "list(6.0)", 15, 9, 1, 1, 6, 0);
        Edge.wrong("behind it", NEW, 15, 9, 1, 1, 6, 1);
        Edge.reads("the last", NEW, 6, 0, "list(6.1 6.1), set()", 15, 9, 2, 1, 11, 0, 1, 6, 1);
        Edge.wrong("behind it", NEW, 15, 9, 2, 1, 11, 0, 1, 6, 2);
        Edge.wrong("before it began", NEW, 15, 9, 2, 1, 6, 1, 1, 11, 0);
        Edge.reads("behind the objects that there are", Scenes.FOUR, 6, 4,
            "record(), list(), map(), set(), list(6.4)", 15, 9, 1, 1, 6, 0);
        Edge.wrong("not among them", Scenes.FOUR, 15, 9, 1, 1, 6, 4);
        Edge.reads("behind the holders' buffers", held(1), 6, 2, "detached, buffer(1), list(6.2)",
            15, 9, 1, 1, 6, 0);
        Edge.wrong("not among them", held(1), 15, 9, 1, 1, 6, 1);
        allPlaces();
    }

    /** 32 objects: a list of lists of stamps, so that the highest places are used. */
    private static void allPlaces() {
        int[] bytes = row(15, 9, 6);
        for (int i = 0; i < 4; i++) {
            int stamps = i == 0 ? 3 : 8;
            bytes = join(bytes, 1, 9, stamps);
            for (int k = 0; k < stamps; k++) {
                bytes = join(bytes, 1, 14, 0);
            }
        }
        int[] last = join(bytes, 1, 6, 31, 1, 6, 30);
        Edge.Scene anew = x -> {
            Check.fill(x, last);
            x.read();
        };
        Edge.answers("place 31", anew, x -> x.get(0, 4, 2), 31);
        Edge.answers("place 30", anew, x -> x.get(0, 5, 2), 30);
        Edge.wrong("place 32", NEW, join(bytes, 1, 6, 32, 1, 6, 30));
    }

    private static void holdersAreGone() {
        Edge.sentence("The holders are gone then.");
        for (int count = 1; count <= 4; count++) {
            Edge.Scene read = Edge.then(held(count), x -> x.read());
            Edge.answers("read", read, x -> x.holders(), 0);
            Edge.wrong("once more", read, 15, 7, 0);
            Edge.Scene wrong = Edge.then(held(count), x -> {
                Check.fill(x, 15);
                Check.badArgument("wrong", () -> x.read());
            });
            Edge.answers("wrong bytes leave them", wrong, x -> x.holders(), count);
        }
    }

    private static void firstIsFifteen() {
        Edge.sentence("the first is not 15");
        Edge.reads("15", NEW, 1, 0, "", 15, 1);
        for (int first : new int[] {0, 1, 14, 16, 127, 128, 143, 255}) {
            Edge.wrong("another", NEW, first, 1);
        }
        Edge.wrong("none", NEW);
        Edge.wrong("15 alone", NEW, 15);
    }

    private static void whatComes() {
        Edge.sentence("one that should say what comes does not");
        Edge.reads("0", NEW, 0, 0, "", 15, 0);
        Edge.reads("14", NEW, 6, 0, "stamp(0)", 15, 14, 0);
        for (int mark : new int[] {15, 16, 127, 128, 129, 142, 254, 255}) {
            Edge.wrong("in front", NEW, 15, mark);
            Edge.wrong("in front", NEW, 15, mark, 0);
            Edge.wrong("in a list", NEW, 15, 9, 1, 1, mark);
            Edge.wrong("in a record", NEW, 15, 8, 1, 0, mark, 0);
            Edge.wrong("as a key", NEW, 15, 10, 1, mark, 1);
            Edge.wrong("as an entry's value", NEW, 15, 10, 1, 1, mark);
            Edge.wrong("in a set", NEW, 15, 11, 1, mark);
            Edge.wrong("in a view", NEW, 15, 13, 1, 0, 0, mark, 0);
        }
    }

    private static void marksInRecordsAndLists() {
        Edge.sentence("one that should say what comes does not: 0 or 1 in records and lists");
        Edge.reads("0 ends a record", NEW, 6, 0, "record()", 15, 8, 0);
        Edge.reads("1 begins a property", NEW, 6, 0, "record(0=1.0)", 15, 8, 1, 0, 1, 0);
        Edge.reads("0 is a hole", NEW, 6, 0, "list(hole)", 15, 9, 1, 0);
        Edge.reads("1 begins a value", NEW, 6, 0, "list(1.0)", 15, 9, 1, 1, 1);
        for (int mark : new int[] {2, 127, 128, 129, 255}) {
            Edge.wrong("in a record", NEW, 15, 8, mark);
            Edge.wrong("in a record", NEW, 15, 8, mark, 0, 1, 0);
            Edge.wrong("behind a property", NEW, 15, 8, 1, 0, 1, mark);
            Edge.wrong("behind a property", NEW, 15, 8, 1, 0, 1, mark, 2, 1, 0);
            Edge.wrong("in a list", NEW, 15, 9, 1, mark);
            Edge.wrong("in a list", NEW, 15, 9, 1, mark, 1);
        }
    }

    private static void lengthyInts() {
        Edge.sentence("a number is too long or does not fit (an int ..)");
        Edge.reads("0", NEW, 4, 0, "", 15, 4, 0);
        Edge.reads("-64", NEW, 4, -64, "", 15, 4, 127);
        Edge.reads("64", NEW, 4, 64, "", 15, 4, 128, 1);
        Edge.reads("-8192", NEW, 4, -8192, "", 15, 4, 255, 127);
        Edge.reads("8192", NEW, 4, 8192, "", 15, 4, 128, 128, 1);
        Edge.reads("MAX", NEW, 4, MAX, "", 15, 4, 254, 255, 255, 255, 15);
        Edge.reads("MIN", NEW, 4, MIN, "", 15, 4, 255, 255, 255, 255, 15);
        Edge.wrong("MAX + 1", NEW, 15, 4, 128, 128, 128, 128, 16);
        Edge.wrong("MIN - 1", NEW, 15, 4, 129, 128, 128, 128, 16);
        Edge.wrong("five bytes", NEW, 15, 4, 255, 255, 255, 255, 127);
        Edge.wrong("six bytes", NEW, 15, 4, 128, 128, 128, 128, 128, 1);
        Edge.wrong("ten bytes", NEW, 15, 4, 128, 128, 128, 128, 128, 128, 128, 128, 128, 1);
        Edge.wrong("as if 1 in 65 bits", NEW, 15, 4, 130, 128, 128, 128, 128, 128, 128, 128, 128, 2);
        Edge.wrong("eleven bytes", NEW, 15, 4, 130, 128, 128, 128, 128, 128, 128, 128, 128, 128, 1);
        Edge.sentence("it has no more bytes than it needs: bytes are wrong when not as they are written");
        Edge.wrong("0 in two bytes", NEW, 15, 4, 128, 0);
        Edge.wrong("-64 in two bytes", NEW, 15, 4, 255, 0);
        Edge.wrong("64 in three bytes", NEW, 15, 4, 128, 129, 0);
        Edge.wrong("0 in three bytes", NEW, 15, 4, 128, 128, 0);
        Edge.wrong("MAX in six bytes", NEW, 15, 4, 254, 255, 255, 255, 143, 0);
        Edge.wrong("0 in ten bytes", NEW, 15, 4, 128, 128, 128, 128, 128, 128, 128, 128, 128, 0);
    }

    private static void lengthyKeys() {
        Edge.sentence("a number is too long or does not fit: a property's key is an int");
        Edge.reads("MAX", NEW, 6, 0, "record(" + MAX + "=1.0)", 15, 8, 1, 254, 255, 255, 255, 15, 1, 0);
        Edge.reads("MIN", NEW, 6, 0, "record(" + MIN + "=1.0)", 15, 8, 1, 255, 255, 255, 255, 15, 1, 0);
        Edge.wrong("MAX + 1", NEW, 15, 8, 1, 128, 128, 128, 128, 16, 1, 0);
        Edge.wrong("MIN - 1", NEW, 15, 8, 1, 129, 128, 128, 128, 16, 1, 0);
        Edge.wrong("0 in two bytes", NEW, 15, 8, 1, 128, 0, 1, 0);
        Edge.wrong("eleven bytes", NEW, 15, 8, 1,
            128, 128, 128, 128, 128, 128, 128, 128, 128, 128, 1, 1, 0);
    }

    private static void lengthyLongs() {
        Edge.sentence("a number is too long or does not fit (.. a long ..)");
        int[] nine = row(15, 14, 255, 255, 255, 255, 255, 255, 255, 255, 255);
        Edge.reads("below ten bytes", NEW, 6, 0, "stamp(" + -(1L << 62) + ")",
            15, 14, 255, 255, 255, 255, 255, 255, 255, 255, 127);
        Edge.reads("the least", NEW, 6, 0, "stamp(" + Long.MIN_VALUE + ")", join(nine, 1));
        Edge.reads("the largest", NEW, 6, 0, "stamp(" + Long.MAX_VALUE + ")",
            15, 14, 254, 255, 255, 255, 255, 255, 255, 255, 255, 1);
        for (int last : new int[] {0, 2, 3, 64, 65, 127}) {
            Edge.wrong("the tenth byte " + last, NEW, join(nine, last));
        }
        Edge.wrong("an eleventh byte", NEW, join(nine, 129, 0));
        Edge.wrong("an eleventh byte", NEW, join(nine, 129, 1));
        Edge.wrong("an eleventh byte", NEW, join(nine, 128, 1));
        Edge.wrong("nine bytes that go on", NEW, nine);
        Edge.wrong("ten bytes that go on", NEW, join(nine, 129));
        Edge.wrong("0 in two bytes", NEW, 15, 14, 128, 0);
    }

    private static void lengthyPlaces() {
        Edge.sentence("a number is too long or does not fit: a place, lengthy");
        for (int mark = 6; mark <= 7; mark++) {
            Edge.wrong("0 in two bytes", held(1), 15, 9, 1, 1, mark, 128, 0);
            Edge.wrong("2^7", held(1), 15, 9, 1, 1, mark, 128, 1);
            Edge.wrong("2^32", held(1), 15, 9, 1, 1, mark, 128, 128, 128, 128, 16);
            Edge.wrong("2^63", held(1), 15, 9, 1, 1, mark,
                128, 128, 128, 128, 128, 128, 128, 128, 128, 1);
            Edge.wrong("2^64", held(1), 15, 9, 1, 1, mark,
                128, 128, 128, 128, 128, 128, 128, 128, 128, 2);
            Edge.wrong("2^64 - 1", held(1), 15, 9, 1, 1, mark,
                255, 255, 255, 255, 255, 255, 255, 255, 255, 1);
            Edge.wrong("2^70", held(1), 15, 9, 1, 1, mark,
                128, 128, 128, 128, 128, 128, 128, 128, 128, 128, 1);
        }
    }

    private static void lengths() {
        Edge.sentence("a number .. does not fit (.. a length ..): the other numbers are one byte");
        Edge.reads("eight bytes", NEW, 6, 0, "buffer(1 2 3 4 5 6 7 8)", 15, 12, 8, 1, 2, 3, 4, 5, 6, 7, 8);
        Edge.reads("seven bytes", NEW, 6, 0, "buffer(1 2 3 4 5 6 7)", 15, 12, 7, 1, 2, 3, 4, 5, 6, 7);
        Edge.wrong("nine bytes", NEW, 15, 12, 9, 1, 2, 3, 4, 5, 6, 7, 8, 9);
        for (int mark : new int[] {5, 9, 10, 11, 12}) {
            Edge.wrong("0 as if it were lengthy", NEW, 15, mark, 128, 0);
            Edge.wrong("255", NEW, 15, mark, 255);
            Edge.wrong("it says none, yet there is something", NEW, 15, mark, 0, 0);
        }
    }

    private static void units() {
        Edge.sentence("a number .. does not fit (.. a unit ..)");
        for (int unit : new int[] {1, 2, 4}) {
            Edge.reads("unit", NEW, 6, 1, "buffer(0 0 0 0), view(0 unit " + unit + " from 0 count 1)",
                15, 13, unit, 0, 1, 12, 4, 0, 0, 0, 0);
        }
        for (int unit : new int[] {0, 3, 5, 8, 128, 129, 130, 132, 255}) {
            Edge.wrong("unit", NEW, 15, 13, unit, 0, 0, 12, 4, 0, 0, 0, 0);
            Edge.wrong("unit", NEW, 15, 13, unit, 0, 1, 12, 4, 0, 0, 0, 0);
        }
    }

    private static int[] record(int properties) {
        int[] bytes = row(15, 8);
        for (int i = 0; i < properties; i++) {
            bytes = join(bytes, 1, 2 * i, 1);
        }
        return join(bytes, 0);
    }

    private static void moreProperties() {
        Edge.sentence("there is more of something than there may be (properties ..)");
        Edge.reads("five", NEW, 6, 0, "record(0=1.0 1=1.0 2=1.0 3=1.0 4=1.0)", record(5));
        Edge.reads("six", NEW, 6, 0, "record(0=1.0 1=1.0 2=1.0 3=1.0 4=1.0 5=1.0)", record(6));
        Edge.wrong("seven", NEW, record(7));
        Edge.wrong("eight", NEW, record(8));
        Edge.wrong("six that do not end", NEW, Arrays.copyOf(record(6), 20));
        Edge.wrong("seven that do not end", NEW, Arrays.copyOf(record(7), 23));
    }

    private static int[] map(int said, int entries) {
        int[] bytes = row(15, 10, said);
        for (int i = 0; i < entries; i++) {
            bytes = join(bytes, 4, 2 * i, 1);
        }
        return bytes;
    }

    private static void moreEntries() {
        Edge.sentence("there is more of something than there may be (.. entries ..)");
        Edge.reads("three", NEW, 6, 0, "map(4.0=1.0 4.1=1.0 4.2=1.0)", map(3, 3));
        Edge.reads("four", NEW, 6, 0, "map(4.0=1.0 4.1=1.0 4.2=1.0 4.3=1.0)", map(4, 4));
        Edge.wrong("five", NEW, map(5, 5));
        Edge.wrong("six", NEW, map(6, 6));
        Edge.wrong("four said, three there", NEW, map(4, 3));
        Edge.wrong("three said, four there", NEW, map(3, 4));
    }

    private static int[] set(int said, int members) {
        int[] bytes = row(15, 11, said);
        for (int i = 0; i < members; i++) {
            bytes = join(bytes, 4, 2 * i);
        }
        return bytes;
    }

    private static void moreValues() {
        Edge.sentence("there is more of something than there may be (.. values ..)");
        Edge.reads("four", NEW, 6, 0, "set(4.0 4.1 4.2 4.3)", set(4, 4));
        Edge.reads("five", NEW, 6, 0, "set(4.0 4.1 4.2 4.3 4.4)", set(5, 5));
        Edge.wrong("six", NEW, set(6, 6));
        Edge.wrong("seven", NEW, set(7, 7));
        Edge.wrong("five said, four there", NEW, set(5, 4));
        Edge.wrong("four said, five there", NEW, set(4, 5));
    }

    private static int[] list(int said, int places) {
        int[] bytes = row(15, 9, said);
        for (int i = 0; i < places; i++) {
            bytes = i % 2 == 0 ? join(bytes, 0) : join(bytes, 1, 1);
        }
        return bytes;
    }

    private static void morePlaces() {
        Edge.sentence("there is more of something than there may be (.. places ..)");
        Edge.reads("seven", NEW, 6, 0, "list(hole 1.0 hole 1.0 hole 1.0 hole)", list(7, 7));
        Edge.reads("eight", NEW, 6, 0, "list(hole 1.0 hole 1.0 hole 1.0 hole 1.0)", list(8, 8));
        Edge.wrong("nine", NEW, list(9, 9));
        Edge.wrong("ten", NEW, list(10, 10));
        Edge.wrong("eight said, seven there", NEW, list(8, 7));
        Edge.wrong("seven said, eight there", NEW, list(7, 8));
    }

    private static void moreOfAText() {
        Edge.sentence("there is more of something than there may be (.. a TEXT's bytes)");
        Edge.reads("none", NEW, 5, 0, "", 15, 5, 0);
        Edge.reads("three", NEW, 5, 0x030201, "", 15, 5, 3, 1, 2, 3);
        Edge.reads("four", NEW, 5, 0x80FF0201, "", 15, 5, 4, 1, 2, 255, 128);
        Edge.wrong("five", NEW, 15, 5, 5, 1, 2, 3, 4, 5);
        Edge.wrong("six", NEW, 15, 5, 6, 1, 2, 3, 4, 5, 6);
        Edge.wrong("eight", NEW, 15, 5, 8, 1, 2, 3, 4, 5, 6, 7, 8);
        Edge.wrong("four said, three there", NEW, 15, 5, 4, 1, 2, 3);
        Edge.wrong("three said, four there", NEW, 15, 5, 3, 1, 2, 3, 4);
    }

    private static void textBytes() {
        Edge.sentence("or one of a TEXT's bytes is 0");
        for (int length = 1; length <= 4; length++) {
            for (int place = 0; place < length; place++) {
                int[] bytes = join(row(15, 5, length), new int[length]);
                Arrays.fill(bytes, 3, 3 + length, 1);
                Edge.answers("none", x -> Check.fill(x, bytes), x -> x.read(), 5);
                int[] wrong = bytes.clone();
                wrong[3 + place] = 0;
                Edge.wrong("byte " + place, NEW, wrong);
            }
        }
        Edge.reads("a buffer's may be", NEW, 6, 0, "buffer(0 0)", 15, 12, 2, 0, 0);
    }

    private static void keysTwice() {
        Edge.sentence("a key .. stands there twice");
        Edge.reads("not twice", NEW, 6, 0, "record(0=1.0 1=1.0 -1=1.0)",
            15, 8, 1, 0, 1, 1, 1, 1, 1, 2, 1, 0);
        Edge.wrong("key 0", NEW, 15, 8, 1, 0, 1, 1, 0, 1, 0);
        Edge.wrong("key 0, another value", NEW, 15, 8, 1, 0, 1, 1, 0, 2, 0);
        Edge.wrong("key -1", NEW, 15, 8, 1, 1, 1, 1, 0, 1, 1, 1, 1, 0);
        Edge.wrong("the first and the sixth", NEW,
            15, 8, 1, 0, 1, 1, 2, 1, 1, 4, 1, 1, 6, 1, 1, 8, 1, 1, 0, 1, 0);
        Edge.wrong("and no end", NEW, 15, 8, 1, 0, 1, 1, 0, 1);
        Edge.reads("in two records", NEW, 6, 0, "record(0=6.1), record(0=1.0)",
            15, 8, 1, 0, 8, 1, 0, 1, 0, 0);
    }

    private static void entriesTwice() {
        Edge.sentence("a key, an entry .. stands there twice");
        Edge.reads("not twice", NEW, 6, 0, "map(4.0=1.0 5.0=1.0)", 15, 10, 2, 4, 0, 1, 5, 0, 1);
        Edge.reads("the same value", NEW, 6, 0, "map(4.0=4.0 4.1=4.0)", 15, 10, 2, 4, 0, 4, 0, 4, 2, 4, 0);
        Edge.wrong("the same key and value", NEW, 15, 10, 2, 4, 0, 1, 4, 0, 1);
        Edge.wrong("the same key, another value", NEW, 15, 10, 2, 4, 0, 1, 4, 0, 2);
        Edge.wrong("the first and the fourth", NEW, 15, 10, 4, 0, 1, 1, 1, 2, 1, 0, 1);
        Edge.wrong("one object", NEW, 15, 10, 2, 8, 0, 1, 6, 1, 1);
        Edge.wrong("the map itself", NEW, 15, 10, 2, 6, 0, 1, 6, 0, 1);
        Edge.wrong("one handed over", held(1), 15, 10, 2, 7, 0, 1, 7, 0, 1);
        Edge.wrong("a text", NEW, 15, 10, 2, 5, 1, 9, 1, 5, 1, 9, 1);
        Edge.reads("in two maps", NEW, 6, 0, "map(1.0=6.1), map(1.0=1.0)", 15, 10, 1, 1, 10, 1, 1, 1);
    }

    private static void membersTwice() {
        Edge.sentence("a key, an entry or a member stands there twice");
        Edge.reads("not twice", NEW, 6, 0, "set(4.0 5.0 0.0)", 15, 11, 3, 4, 0, 5, 0, 0);
        for (int kind = 0; kind <= 3; kind++) {
            Edge.wrong("kind " + kind, NEW, 15, 11, 2, kind, kind);
        }
        Edge.wrong("a number", NEW, 15, 11, 2, 4, 0, 4, 0);
        Edge.wrong("a text", NEW, 15, 11, 2, 5, 1, 1, 5, 1, 1);
        Edge.wrong("the first and the fifth", NEW, 15, 11, 5, 0, 1, 2, 3, 0);
        Edge.wrong("one object", NEW, 15, 11, 2, 14, 0, 6, 1);
        Edge.wrong("one handed over", held(1), 15, 11, 2, 7, 0, 7, 0);
        Edge.reads("two objects", NEW, 6, 0, "set(6.1 6.2), stamp(0), stamp(0)", 15, 11, 2, 14, 0, 14, 0);
    }

    private static void viewsInTheirBuffers() {
        Edge.sentence("a view does not lie in its buffer");
        int[][] lie = {{1, 0, 4}, {1, 4, 0}, {1, 3, 1}, {2, 0, 2}, {2, 2, 1}, {2, 4, 0}, {4, 0, 1},
            {4, 4, 0}, {4, 0, 0}};
        for (int[] v : lie) {
            Edge.reads("it does", NEW, 6, 1, "buffer(0 0 0 0), view(0 unit " + v[0] + " from " + v[1]
                + " count " + v[2] + ")", 15, 13, v[0], v[1], v[2], 12, 4, 0, 0, 0, 0);
        }
        int[][] wrong = {{1, 0, 5}, {1, 5, 0}, {1, 4, 1}, {1, 3, 2}, {2, 0, 3}, {2, 2, 2}, {2, 4, 1},
            {2, 6, 0}, {4, 0, 2}, {4, 4, 1}, {4, 8, 0}, {1, 255, 0}, {1, 0, 255}, {4, 0, 64}, {4, 0, 65},
            {4, 252, 1}, {2, 254, 1}, {2, 0, 128}, {1, 255, 1}};
        for (int[] v : wrong) {
            Edge.wrong("it does not", NEW, 15, 13, v[0], v[1], v[2], 12, 4, 0, 0, 0, 0);
        }
        int[][] askew = {{2, 1, 0}, {2, 1, 1}, {2, 3, 0}, {4, 1, 0}, {4, 2, 0}, {4, 3, 0}};
        for (int[] v : askew) {
            Edge.wrong("FROM is no multiple", NEW, 15, 13, v[0], v[1], v[2], 12, 4, 0, 0, 0, 0);
        }
        Edge.reads("in none", NEW, 6, 1, "buffer(), view(0 unit 4 from 0 count 0)", 15, 13, 4, 0, 0, 12, 0);
        Edge.wrong("not in none", NEW, 15, 13, 1, 0, 1, 12, 0);
        Edge.wrong("not in one that is handed over", held(1), 15, 13, 1, 0, 2, 7, 0);
    }

    private static void viewsOfNoBuffers() {
        Edge.sentence("or its value is no buffer");
        int[][] values = {{0}, {1}, {2}, {3}, {4, 0}, {5, 0}, {8, 0}, {9, 0}, {10, 0}, {11, 0},
            {13, 1, 0, 0, 12, 0}, {14, 0}};
        for (int[] value : values) {
            Edge.wrong("alone", NEW, join(row(15, 13, 1, 0, 0), value));
            Edge.wrong("when object 0 is a buffer", Scenes.buffers(1), join(row(15, 13, 1, 0, 0), value));
        }
        Edge.wrong("its list", NEW, 15, 9, 1, 1, 13, 1, 0, 0, 6, 0);
        Edge.wrong("another view", NEW, 15, 9, 2, 1, 13, 1, 0, 0, 12, 0, 1, 13, 1, 0, 0, 6, 2);
        Edge.reads("that one's buffer", NEW, 6, 0, "list(6.2 6.3), buffer(), view(1 unit 1 from 0 count 0), "
            + "view(1 unit 1 from 0 count 0)", 15, 9, 2, 1, 13, 1, 0, 0, 12, 0, 1, 13, 1, 0, 0, 6, 1);
    }

    /** Bytes that are right, with something of each sort in them; there is a holder. */
    private static final int[][] RIGHT = {
        {15, 0}, {15, 1}, {15, 2}, {15, 3}, {15, 4, 128, 1}, {15, 5, 4, 1, 2, 3, 4}, {15, 7, 0},
        {15, 8, 1, 2, 4, 128, 1, 1, 129, 1, 5, 1, 65, 0}, {15, 9, 3, 0, 1, 6, 0, 1, 7, 0},
        {15, 10, 2, 4, 0, 8, 0, 9, 0, 6, 2}, {15, 11, 3, 1, 10, 0, 6, 0},
        {15, 12, 3, 1, 2, 3}, {15, 13, 2, 0, 1, 12, 2, 8, 9}, {15, 13, 1, 1, 0, 7, 0},
        {15, 14, 255, 255, 255, 255, 255, 255, 255, 255, 255, 1}};

    private static void bytesWanting() {
        Edge.sentence("bytes are wanting");
        for (int[] bytes : RIGHT) {
            Edge.Scene all = Edge.then(held(1), x -> Check.fill(x, bytes));
            Edge.answers("none is wanting", all, x -> x.read() < 0 ? 0 : 1, 1);
            for (int count = 0; count < bytes.length; count++) {
                Edge.wrong("bytes are wanting", held(1), Arrays.copyOf(bytes, count));
            }
        }
    }

    /** 300 bytes, the most that there can be: a list of so many places, and the last two bytes. */
    private static int[] longest(int places, int last, int veryLast) {
        int[] bytes = row(15, 9, places);
        for (int i = 0; i < 5; i++) {
            bytes = join(bytes, 1, 9, 8);
            for (int k = 0; k < 8; k++) {
                bytes = join(bytes, 1, 5, 4, 1, 1, 1, 1);
            }
        }
        return join(bytes, last, veryLast);
    }

    private static void lastOf300() {
        Edge.sentence("bytes are wanting or left, when there are 300");
        int[] right = longest(6, 1, 1);
        Check.due("all bytes", right.length, 300);
        Edge.answers("none is", x -> Check.fill(x, right), x -> x.read(), 6);
        for (int mark = 4; mark <= 14; mark++) {
            Edge.wrong("wanting behind mark " + mark, NEW, longest(6, 1, mark));
        }
        Edge.wrong("a value is wanting", NEW, longest(7, 0, 1));
        Edge.wrong("a place is wanting", NEW, longest(7, 1, 1));
        Edge.wrong("two places are wanting", NEW, longest(8, 1, 1));
        Edge.wrong("one is left", NEW, longest(6, 0, 0));
        Edge.wrong("two are left", NEW, longest(5, 1, 1));
    }

    private static void bytesLeft() {
        Edge.sentence("bytes are .. left");
        for (int[] bytes : RIGHT) {
            for (int more : new int[] {0, 1, 15, 128, 255}) {
                Edge.wrong("one is left", held(1), join(bytes, more));
            }
            Edge.wrong("all again", held(1), join(bytes, bytes));
        }
    }

    /** Lists in lists, and behind them what the last one's place has: that is a depth deeper. */
    private static int[] nest(int lists, int... inside) {
        int[] bytes = row(15);
        for (int i = 0; i < lists; i++) {
            bytes = join(bytes, 9, 1, 1);
        }
        return join(bytes, inside);
    }

    private static void depth() {
        Edge.sentence("or the depth is above 12");
        int[][] inside = {{0}, {1}, {2}, {3}, {4, 0}, {5, 0}, {8, 0}, {9, 0}, {10, 0}, {11, 0}, {12, 0},
            {14, 0}};
        for (int[] value : inside) {
            deepest("a value", 11, value);
        }
        deepest("in a record", 10, 8, 1, 0, 1, 0);
        deepest("in a list", 10, 9, 2, 0, 1, 1);
        deepest("a map's key", 10, 10, 1, 4, 0, 1);
        deepest("in a map's key", 9, 10, 1, 9, 1, 1, 1, 1);
        deepest("in a map's value", 9, 10, 1, 1, 9, 1, 1, 1);
        deepest("in a set", 10, 11, 1, 1);
        deepest("a view's buffer", 10, 13, 1, 0, 0, 12, 0);
        Edge.answers("holes are no values", x -> Check.fill(x, nest(11, 9, 2, 0, 0)), x -> x.read(), 6);
        Edge.wrong("32 deep", NEW, nest(31, 9, 0));
        Edge.wrong("as deep as there is room", NEW, nest(99, 9, 0));
    }

    /** With so many lists around it, it is read, and with one more it is wrong. */
    private static void deepest(String what, int lists, int... inside) {
        for (int fewer = 0; fewer <= 1; fewer++) {
            int[] bytes = nest(lists - fewer, inside);
            Edge.answers(what + " at depth " + (12 - fewer), x -> Check.fill(x, bytes), x -> x.read(), 6);
        }
        Edge.wrong(what + " at depth 13", NEW, nest(lists + 1, inside));
        Edge.wrong(what + " at depth 14", NEW, nest(lists + 2, inside));
    }

    private static void depthOfSharedOnes() {
        Edge.sentence("or the depth is above 12: a place in the row, one handed over");
        deepest("a place", 11, 6, 0);
        int[] twelve = nest(11, 7, 0);
        Edge.answers("a handed one at depth 12", Edge.then(held(1), x -> Check.fill(x, twelve)),
            x -> x.read(), 6);
        Edge.wrong("a handed one at depth 13", held(1), nest(12, 7, 0));
        int[] view = nest(10, 13, 1, 0, 1, 7, 0);
        Edge.answers("a view's handed one at depth 12", Edge.then(held(1), x -> Check.fill(x, view)),
            x -> x.read(), 6);
        Edge.wrong("a view's handed one at depth 13", held(1), nest(11, 13, 1, 0, 1, 7, 0));
    }

    private static void moreThan32() {
        Edge.sentence("They also are when there would be more than 32 objects.");
        int[][] three = {{15, 9, 2, 1, 8, 0, 1, 9, 0}, {15, 10, 1, 11, 0, 10, 0}, {15, 11, 2, 14, 0, 14, 0},
            {15, 9, 1, 1, 13, 1, 0, 0, 12, 0}, {15, 8, 1, 0, 13, 1, 0, 0, 12, 0, 0}};
        for (int[] bytes : three) {
            for (int there = 28; there <= 29; there++) {
                Edge.Scene scene = Edge.then(Scenes.more(there), x -> Check.fill(x, bytes));
                Edge.answers("room", scene, x -> x.read(), 6);
                Edge.answers("all", Edge.then(scene, x -> x.read()), x -> x.objects(), there + 3);
            }
            for (int there = 30; there <= 32; there++) {
                Edge.wrong("no room", Scenes.more(there), bytes);
            }
        }
        Edge.answers("a value needs none", Edge.then(Scenes.more(32), x -> Check.fill(x, 15, 1)),
            x -> x.read(), 1);
        roomForHolders();
    }

    private static void roomForHolders() {
        for (int count = 1; count <= 4; count++) {
            int n = count;
            Edge.Scene room = Edge.then(held(count), Scenes.more(32 - 2 * count));
            Edge.answers("room for the holders", room, x -> x.read(), 1);
            Edge.answers("all", Edge.then(room, x -> x.read()), x -> x.objects(), 32);
            Edge.wrong("none for an object behind them", room, 15, 14, 0);
            Edge.Scene none = Edge.then(room, Scenes.more(1));
            Edge.wrong("no room for the last holder", none, 15, 1);
            Edge.answers("they are forgotten, and it is read", Edge.then(none, x -> {
                x.clear();
                Check.fill(x, 15, 1);
            }), x -> x.read(), 1);
            Edge.Scene full = Edge.then(held(n), Scenes.more(32 - n));
            Edge.wrong("no room at all", full, 15, 1);
        }
    }

    private static void keysInAnyOrder() {
        Edge.sentence("(Properties' keys may come in any order ..)");
        Edge.reads("by size", NEW, 6, 0, "record(0=1.0 1=2.0)", 15, 8, 1, 0, 1, 1, 2, 2, 0);
        Edge.reads("the other way", NEW, 6, 0, "record(0=1.0 1=2.0)", 15, 8, 1, 2, 2, 1, 0, 1, 0);
        Edge.reads("below 0 first", NEW, 6, 0, "record(0=1.0 -1=2.0)", 15, 8, 1, 1, 2, 1, 0, 1, 0);
        Edge.reads("below 0 as they came", NEW, 6, 0, "record(-1=2.0 -2=1.0)", 15, 8, 1, 1, 2, 1, 3, 1, 0);
        Edge.reads("below 0 as they came", NEW, 6, 0, "record(-2=1.0 -1=2.0)", 15, 8, 1, 3, 1, 1, 1, 2, 0);
    }

    private static void recordsAsKeys() {
        Edge.sentence("(.. and a record may be a key.)");
        Edge.reads("a record", NEW, 6, 0, "map(6.1=1.0), record(0=6.0)", 15, 10, 1, 8, 1, 0, 6, 0, 0, 1);
        Edge.reads("two records", NEW, 6, 0, "map(6.1=1.0 6.2=1.0), record(), record()",
            15, 10, 2, 8, 0, 1, 8, 0, 1);
        Edge.reads("one in a set", NEW, 6, 0, "set(6.1), record()", 15, 11, 1, 8, 0);
        Edge.reads("the map itself", NEW, 6, 0, "map(6.0=6.0)", 15, 10, 1, 6, 0, 6, 0);
    }

    private static void objectsStay() {
        Edge.sentence("read: behind the objects that there are, which stay; all together at most 32");
        String there = "record(), list(), map(), set(), buffer(1 2 3), view(4 unit 2 from 0 count 1), "
            + "stamp(-6), actor";
        Edge.reads("an object", Scenes.EACH, 6, 8, there + ", list(6.8)", 15, 9, 1, 1, 6, 0);
        Edge.reads("a value", Scenes.EACH, 4, 1, there, 15, 4, 2);
        Edge.Scene passed = Edge.then(Scenes.EACH, x -> {
            x.pass(4);
            Check.fill(x, 15, 1);
        });
        Edge.answers("what is passed stays", Edge.then(passed, x -> x.read()), x -> x.pass(0), 2);
        Edge.Scene wrong = Edge.then(Scenes.EACH, x -> {
            x.pass(4);
            Check.fill(x, 15, 9, 2, 1, 8, 0, 1, 15);
        });
        Edge.refuses("wrong bytes leave all", wrong, x -> x.read(), Edge.ARGUMENT);
        Edge.Scene after = Edge.then(wrong, x -> Check.badArgument("wrong", () -> x.read()));
        Edge.answers("the next one is numbered as before", after, x -> x.make(0), 8);
        Edge.Scene made = Edge.then(after, x -> x.make(1));
        Edge.object("and is empty", made, 8, "list()");
    }

    private static void kindOfTheValue() {
        Edge.sentence("read: the kind of the value");
        int[][] bytes = {{15, 0}, {15, 1}, {15, 2}, {15, 3}, {15, 4, 0}, {15, 5, 0}};
        for (int kind = 0; kind < 6; kind++) {
            Edge.reads("kind " + kind, NEW, kind, 0, "", bytes[kind]);
        }
        for (int mark = 8; mark <= 14; mark++) {
            int[] object = mark == 13 ? row(15, 13, 1, 0, 0, 12, 0) : row(15, mark, 0);
            Edge.answers("an object", x -> Check.fill(x, object), x -> x.read(), 6);
        }
        Edge.answers("a handed one", Edge.then(held(1), x -> Check.fill(x, 15, 7, 0)), x -> x.read(), 6);
    }

    private static void found() {
        Edge.sentence("found: The number of the value that was read last; 0 when none was. (It stays when "
            + "objects are forgotten.)");
        Edge.keeps("none was", NEW, x -> x.found(), 0);
        Edge.answers("writing finds nothing", x -> x.write(4, 8), x -> x.found(), 0);
        Edge.Scene eight = x -> {
            x.make(0);
            Check.fill(x, 15, 4, 16);
            x.read();
        };
        Edge.keeps("a number", eight, x -> x.found(), 8);
        Edge.answers("it stays", Edge.then(eight, x -> x.clear()), x -> x.found(), 8);
        Edge.answers("it stays", Edge.then(eight, x -> x.wipe()), x -> x.found(), 8);
        Edge.answers("it stays", Edge.then(eight, x -> x.write(4, 3)), x -> x.found(), 8);
        Edge.Scene wrong = Edge.then(eight, x -> {
            Check.fill(x, 15, 4, 6, 0);
            Check.badArgument("wrong", () -> x.read());
        });
        Edge.answers("wrong bytes leave it", wrong, x -> x.found(), 8);
        for (int kind = 0; kind <= 3; kind++) {
            int k = kind;
            Edge.answers("then 0", Edge.then(eight, x -> {
                Check.fill(x, 15, k);
                x.read();
            }), x -> x.found(), 0);
        }
        Edge.Scene object = Edge.then(eight, x -> {
            Check.fill(x, 15, 8, 0);
            x.read();
        });
        Edge.answers("an object", object, x -> x.found(), 1);
        Edge.answers("an object, forgotten", Edge.then(object, x -> x.clear()), x -> x.found(), 1);
        Edge.answers("the last of 32", Edge.then(Scenes.more(31), x -> {
            Check.fill(x, 15, 8, 0);
            x.read();
        }), x -> x.found(), 31);
    }
}

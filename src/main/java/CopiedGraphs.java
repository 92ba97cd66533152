import java.util.NoSuchElementException;

/**
 * Graphs of objects, with sharing and rings, that are written to bytes and made anew from bytes.
 * Whatever can't be written, and any bytes that are wrong, are refused whole.
 */
public final class CopiedGraphs {
    public static final int NONE = -1;

    private static final int MOST_OBJECTS = 32;
    private static final int MOST_BYTES = 300;
    private static final int MOST_PASSED = 4;
    private static final int MOST_PROPERTIES = 6;
    private static final int MOST_PLACES = 8;
    private static final int MOST_ENTRIES = 4;
    private static final int MOST_MEMBERS = 5;
    private static final int MOST_BUFFER_BYTES = 8;
    private static final int MOST_TEXT_BYTES = 4;
    private static final int DEEPEST = 12;

    private static final int UNDEFINED = 0;
    private static final int TRUE = 3;
    private static final int NUMBER = 4;
    private static final int TEXT = 5;
    private static final int OBJECT = 6;
    private static final int SIGN = 7;
    private static final int GETTER = 8;

    private static final int RECORD = 0;
    private static final int LIST = 1;
    private static final int MAP = 2;
    private static final int SET = 3;
    private static final int BUFFER = 4;
    private static final int VIEW = 5;
    private static final int STAMP = 6;
    private static final int ACTOR = 7;

    private static final int THROWS = 1;
    private static final int TAKES = 2;
    private static final int GIVES = 3;
    private static final int DETACHES = 4;
    private static final int GIVEN_NUMBER = 7;

    // What comes next is told by a mark: up to 5 a kind, from FIRST_TYPE_MARK on an object's type.
    private static final int ROW_MARK = 6;
    private static final int HANDED_MARK = 7;
    private static final int FIRST_TYPE_MARK = 8;
    private static final int LAST_MARK = 14;
    private static final int START = 15;

    /** A long has 64 bits: nine bytes of seven bits, and one bit in the tenth. */
    private static final int MOST_LENGTHY_BYTES = 10;

    private static final int GOING = 0;
    private static final int IMPOSSIBLE = 1;
    private static final int HARMED = 2;

    private final Store store;
    private final Bytes bytes;
    private final Handover handover;
    private final Writer writer;
    private final Reader reader;
    private int foundNumber;

    public CopiedGraphs() {
        store = new Store();
        bytes = new Bytes();
        handover = new Handover();
        writer = new Writer();
        reader = new Reader();
        foundNumber = 0;
    }

    public int make(int type) throws IllegalArgumentException, IllegalStateException {
        if ((type < RECORD || type > SET) && type != ACTOR) {
            throw new IllegalArgumentException("no such type can be made empty");
        }
        return beginOrRefuse(type);
    }

    public int buffer(long w, int n) throws IllegalArgumentException, IllegalStateException {
        if (n < 0 || n > MOST_BUFFER_BYTES) {
            throw new IllegalArgumentException("a buffer has 0 to 8 bytes");
        }
        int made = beginOrRefuse(BUFFER);
        store.things[made].holdBytes(w, n);
        return made;
    }

    public int view(int b, int unit, int from, int count)
            throws IllegalArgumentException, IllegalStateException {
        Thing viewed = store.thingAt(b);
        if (viewed == null || !viewed.canBeViewed(unit, from, count)) {
            throw new IllegalArgumentException("no such view");
        }
        int made = beginOrRefuse(VIEW);
        store.things[made].lookAt(b, unit, from, count);
        return made;
    }

    public int stamp(long v) throws IllegalStateException {
        int made = beginOrRefuse(STAMP);
        store.things[made].word = v;
        return made;
    }

    public void put(int o, int key, int kind, int v)
            throws IllegalArgumentException, IllegalStateException {
        Thing holder = store.thingAt(o);
        if (holder == null || !canBePut(holder, key, kind, v)) {
            throw new IllegalArgumentException("no record or list, no such value, or no such place");
        }
        if (holder.sort == LIST) {
            holder.setPlace(key, kind, countedNumber(kind, v));
        } else if (!holder.setProperty(key, kind, countedNumber(kind, v))) {
            throw new IllegalStateException("the record has 6 others");
        }
    }

    public boolean take(int o, int key) throws IllegalArgumentException {
        Thing holder = store.thingAt(o);
        if (holder == null || (holder.sort != RECORD && holder.sort != LIST)) {
            throw new IllegalArgumentException("neither a record nor a list");
        }
        return holder.sort == RECORD ? holder.dropProperty(key) : holder.makeHole(key);
    }

    public void entry(int o, int keyKind, int key, int kind, int v)
            throws IllegalArgumentException, IllegalStateException {
        Thing map = store.thingAt(o);
        if (map == null || map.sort != MAP
                || !store.isValue(keyKind, key) || !store.isValue(kind, v)) {
            throw new IllegalArgumentException("no map, or no such key or value");
        }
        int keyNumber = countedNumber(keyKind, key);
        if (!map.setEntry(keyKind, keyNumber, kind, countedNumber(kind, v))) {
            throw new IllegalStateException("the map has 4 others");
        }
    }

    public boolean add(int o, int kind, int v)
            throws IllegalArgumentException, IllegalStateException {
        Thing set = store.thingAt(o);
        if (set == null || set.sort != SET || !store.isValue(kind, v)) {
            throw new IllegalArgumentException("no set, or no such value");
        }
        int number = countedNumber(kind, v);
        if (set.hasMember(kind, number)) {
            return false;
        }
        if (!set.appendMember(kind, number)) {
            throw new IllegalStateException("the set has 5 others");
        }
        return true;
    }

    public boolean detach(int o) {
        return store.detachBuffer(o);
    }

    public int clear() {
        int there = store.count;
        store.count = 0;
        handover.passedCount = 0;
        handover.holderCount = 0;
        return there;
    }

    public int objects() {
        return store.count;
    }

    public int type(int o) {
        Thing thing = store.thingAt(o);
        return thing == null ? NONE : thing.sort;
    }

    public int size(int o) {
        Thing thing = store.thingAt(o);
        if (thing == null || thing.sort == STAMP || thing.sort == ACTOR || thing.detached) {
            return NONE;
        }
        return thing.count;
    }

    public long get(int o, int k, int what) throws IndexOutOfBoundsException {
        Thing thing = store.thingAt(o);
        if (thing == null || !thing.hasPart(k, what)) {
            throw new IndexOutOfBoundsException("there is none such");
        }
        return thing.part(k, what);
    }

    public int pass(int o) throws IllegalArgumentException, IllegalStateException {
        if (store.thingAt(o) == null) {
            throw new IllegalArgumentException("no such object");
        }
        if (!handover.appendPassed(o)) {
            throw new IllegalStateException("4 are passed already");
        }
        return handover.passedCount;
    }

    public int holders() {
        return handover.holderCount;
    }

    public int write(int kind, int v) throws IllegalArgumentException, NoSuchElementException {
        int outcome = writer.run(store, handover, kind, v);
        if (outcome == GOING) {
            handover.handOver(store);
            bytes.becomeLike(writer.draft);
        }
        handover.passedCount = 0;
        if (outcome == IMPOSSIBLE) {
            throw new IllegalArgumentException("no such value, or it can't be written");
        }
        if (outcome == HARMED) {
            throw new NoSuchElementException("a getter throws");
        }
        return bytes.count;
    }

    public int read() throws IllegalArgumentException {
        if (!reader.run(store, bytes, handover)) {
            throw new IllegalArgumentException("the bytes are wrong");
        }
        handover.holderCount = 0;
        foundNumber = reader.number;
        return reader.kind;
    }

    public int found() {
        return foundNumber;
    }

    public int feed(long w, int n) {
        if (n < 1 || n > 8 || bytes.count + n > MOST_BYTES) {
            return NONE;
        }
        for (int i = 0; i < n; i++) {
            bytes.append(byteOf(w, i));
        }
        return bytes.count;
    }

    public int wipe() {
        int there = bytes.count;
        bytes.count = 0;
        return there;
    }

    public boolean spoil(int k, int v) {
        if (k < 0 || k >= bytes.count) {
            return false;
        }
        bytes.row[k] = v & 255;
        return true;
    }

    public int byteAt(int k) {
        return k < 0 || k >= bytes.count ? NONE : bytes.row[k];
    }

    private int beginOrRefuse(int sort) {
        int made = store.begin(sort);
        if (made == NONE) {
            throw new IllegalStateException("there are 32 objects");
        }
        return made;
    }

    private boolean canBePut(Thing holder, int key, int kind, int v) {
        if (holder.sort == RECORD) {
            return kind == GETTER || store.isValue(kind, v);
        }
        return holder.sort == LIST && key >= 0 && key < MOST_PLACES && store.isValue(kind, v);
    }

    /** So that two values without a number are the same whatever number they came with. */
    private static int countedNumber(int kind, int number) {
        return kind <= TRUE ? 0 : number;
    }

    private static int byteOf(long word, int place) {
        return (int) (word >>> (8 * place)) & 255;
    }

    /** One object of a graph; which of its fields mean something depends on its sort (its type). */
    private static final class Thing {
        final int[] keyKinds = new int[MOST_PLACES];
        final int[] keys = new int[MOST_PLACES];
        final int[] kinds = new int[MOST_PLACES];
        final int[] numbers = new int[MOST_PLACES];
        int sort;
        /** Properties, places, entries, values or bytes; a view's COUNT. */
        int count;
        boolean detached;
        int viewed;
        int unit;
        int from;
        /** A buffer's bytes, the first one lowest, or a stamp's long. */
        long word;

        void begin(int newSort) {
            sort = newSort;
            count = 0;
            detached = false;
            word = 0;
        }

        void holdBytes(long w, int n) {
            word = w;
            count = n;
        }

        void lookAt(int b, int newUnit, int newFrom, int newCount) {
            viewed = b;
            unit = newUnit;
            from = newFrom;
            count = newCount;
        }

        boolean canBeViewed(int newUnit, int newFrom, int newCount) {
            if (sort != BUFFER || detached) {
                return false;
            }
            if (newUnit != 1 && newUnit != 2 && newUnit != 4) {
                return false;
            }
            if (newFrom < 0 || newFrom % newUnit != 0 || newCount < 0) {
                return false;
            }
            return newFrom + (long) newUnit * newCount <= count;
        }

        int indexOfKey(int keyKind, int key) {
            for (int i = 0; i < count; i++) {
                if (keyKinds[i] == keyKind && keys[i] == key) {
                    return i;
                }
            }
            return NONE;
        }

        boolean hasMember(int kind, int number) {
            for (int i = 0; i < count; i++) {
                if (kinds[i] == kind && numbers[i] == number) {
                    return true;
                }
            }
            return false;
        }

        /** False, changing nothing, when the set has no room. */
        boolean appendMember(int kind, int number) {
            if (count >= MOST_MEMBERS) {
                return false;
            }
            setValue(count, kind, number);
            count++;
            return true;
        }

        /** False, changing nothing, when the map has no such key and no room. */
        boolean setEntry(int keyKind, int key, int kind, int number) {
            int at = indexOfKey(keyKind, key);
            if (at == NONE) {
                if (count >= MOST_ENTRIES) {
                    return false;
                }
                at = count;
                keyKinds[at] = keyKind;
                keys[at] = key;
                count++;
            }
            setValue(at, kind, number);
            return true;
        }

        /** False, changing nothing, when the record has no such key and no room. */
        boolean setProperty(int key, int kind, int number) {
            int at = indexOfKey(NUMBER, key);
            if (at == NONE) {
                if (count >= MOST_PROPERTIES) {
                    return false;
                }
                at = orderedPlace(key);
                openGap(at);
                keyKinds[at] = NUMBER;
                keys[at] = key;
            }
            setValue(at, kind, number);
            return true;
        }

        boolean dropProperty(int key) {
            int at = indexOfKey(NUMBER, key);
            if (at == NONE) {
                return false;
            }
            for (int i = at; i + 1 < count; i++) {
                keys[i] = keys[i + 1];
                setValue(i, kinds[i + 1], numbers[i + 1]);
            }
            count--;
            return true;
        }

        void setPlace(int place, int kind, int number) {
            for (int i = count; i < place; i++) {
                setValue(i, NONE, 0);
            }
            setValue(place, kind, number);
            count = Math.max(count, place + 1);
        }

        boolean makeHole(int place) {
            if (place < 0 || place >= count) {
                return false;
            }
            setValue(place, NONE, 0);
            return true;
        }

        boolean hasPart(int k, int what) {
            if (what < 0 || what > 3 || k < 0) {
                return false;
            }
            if (sort == VIEW) {
                return k == 0;
            }
            if (sort == STAMP) {
                return k == 0 && what == 0;
            }
            return !detached && k < count && (what < 3 || sort == MAP);
        }

        /** Only for a part that it has. */
        long part(int k, int what) {
            switch (sort) {
                case VIEW:
                    return viewPart(what);
                case STAMP:
                    return word;
                case BUFFER:
                    return bytePart(k, what);
                default:
                    return valuePart(k, what);
            }
        }

        private long viewPart(int what) {
            switch (what) {
                case 0:
                    return viewed;
                case 1:
                    return unit;
                case 2:
                    return from;
                default:
                    return count;
            }
        }

        private long bytePart(int k, int what) {
            if (what == 0) {
                return k;
            }
            return what == 1 ? NUMBER : byteOf(word, k);
        }

        private long valuePart(int k, int what) {
            switch (what) {
                case 0:
                    return sort == RECORD || sort == MAP ? keys[k] : k;
                case 1:
                    return kinds[k];
                case 2:
                    return numbers[k];
                default:
                    return keyKinds[k];
            }
        }

        private void setValue(int at, int kind, int number) {
            kinds[at] = kind;
            numbers[at] = number;
        }

        /** Keys from 0 on stand by size in front of those below 0, which stand as they came. */
        private int orderedPlace(int key) {
            if (key < 0) {
                return count;
            }
            int at = 0;
            while (at < count && keys[at] >= 0 && keys[at] < key) {
                at++;
            }
            return at;
        }

        private void openGap(int at) {
            for (int i = count; i > at; i--) {
                keyKinds[i] = keyKinds[i - 1];
                keys[i] = keys[i - 1];
                setValue(i, kinds[i - 1], numbers[i - 1]);
            }
            count++;
        }
    }

    /** All objects that there are; the things behind the count wait to be used. */
    private static final class Store {
        final Thing[] things = new Thing[MOST_OBJECTS];
        int count;

        Store() {
            for (int i = 0; i < MOST_OBJECTS; i++) {
                things[i] = new Thing();
            }
        }

        /** The number of a new, empty object; NONE when there is no room. */
        int begin(int sort) {
            if (count >= MOST_OBJECTS) {
                return NONE;
            }
            things[count].begin(sort);
            count++;
            return count - 1;
        }

        Thing thingAt(int o) {
            return o < 0 || o >= count ? null : things[o];
        }

        boolean isFreeBuffer(int o) {
            Thing thing = thingAt(o);
            return thing != null && thing.sort == BUFFER && !thing.detached;
        }

        boolean detachBuffer(int o) {
            if (!isFreeBuffer(o)) {
                return false;
            }
            things[o].detached = true;
            return true;
        }

        boolean isValue(int kind, int number) {
            if (kind < UNDEFINED || kind > SIGN) {
                return false;
            }
            if (kind == TEXT) {
                return isText(number);
            }
            return kind != OBJECT || (number >= 0 && number < count);
        }

        private static boolean isText(int number) {
            for (int i = 0; i + 1 < MOST_TEXT_BYTES; i++) {
                if (byteOf(number, i) == 0 && byteOf(number, i + 1) != 0) {
                    return false;
                }
            }
            return true;
        }
    }

    private static final class Bytes {
        final int[] row = new int[MOST_BYTES];
        int count;

        /** False, changing nothing, when there is no room. */
        boolean append(int b) {
            if (count >= MOST_BYTES) {
                return false;
            }
            row[count] = b;
            count++;
            return true;
        }

        void becomeLike(Bytes other) {
            System.arraycopy(other.row, 0, row, 0, other.count);
            count = other.count;
        }
    }

    /** The objects that are passed, and the bytes that holders have until they are read. */
    private static final class Handover {
        final int[] passed = new int[MOST_PASSED];
        int passedCount;
        final long[] words = new long[MOST_PASSED];
        final int[] lengths = new int[MOST_PASSED];
        int holderCount;

        boolean appendPassed(int o) {
            if (passedCount >= MOST_PASSED) {
                return false;
            }
            passed[passedCount] = o;
            passedCount++;
            return true;
        }

        boolean areFreeBuffers(Store store) {
            for (int i = 0; i < passedCount; i++) {
                if (!store.isFreeBuffer(passed[i])) {
                    return false;
                }
            }
            return true;
        }

        boolean noneTwice() {
            for (int i = 0; i < passedCount; i++) {
                if (placeOf(passed[i]) != i) {
                    return false;
                }
            }
            return true;
        }

        /** The first place of an object among those passed; NONE when it is not. */
        int placeOf(int o) {
            for (int i = 0; i < passedCount; i++) {
                if (passed[i] == o) {
                    return i;
                }
            }
            return NONE;
        }

        void handOver(Store store) {
            for (int i = 0; i < passedCount; i++) {
                Thing buffer = store.thingAt(passed[i]);
                if (buffer != null) {
                    words[i] = buffer.word;
                    lengths[i] = buffer.count;
                    buffer.detached = true;
                }
            }
            holderCount = passedCount;
        }
    }

    /** Writes a value into a draft, so that the bytes stay as they are when it is impossible. */
    private static final class Writer {
        final Bytes draft = new Bytes();
        /** Each object's place in the row of those written. */
        final int[] places = new int[MOST_OBJECTS];
        int placeCount;
        /** The keys that the record at each depth had when it began: getters change its keys. */
        final int[][] keysAtDepth = new int[DEEPEST + 1][MOST_PROPERTIES];
        int outcome;

        /** GOING when all is written, else why it is not. */
        int run(Store store, Handover handover, int kind, int number) {
            draft.count = 0;
            placeCount = 0;
            for (int i = 0; i < MOST_OBJECTS; i++) {
                places[i] = NONE;
            }
            boolean canBegin = store.isValue(kind, number)
                    && handover.areFreeBuffers(store) && handover.noneTwice();
            outcome = canBegin ? GOING : IMPOSSIBLE;
            writeByte(START);
            writeValue(store, handover, kind, number, 1);
            if (outcome == GOING && !handover.areFreeBuffers(store)) {
                outcome = IMPOSSIBLE;
            }
            return outcome;
        }

        private void writeByte(int b) {
            if (outcome == GOING && !draft.append(b)) {
                outcome = IMPOSSIBLE;
            }
        }

        private void writeLengthy(long number) {
            long left = number;
            for (int i = 1; i < MOST_LENGTHY_BYTES && (left >>> 7) != 0; i++) {
                writeByte((int) (left & 127) + 128);
                left = left >>> 7;
            }
            writeByte((int) left);
        }

        private void writeZigzag(long number) {
            writeLengthy((number << 1) ^ (number >> 63));
        }

        private void writeWord(long word, int length) {
            writeByte(length);
            for (int i = 0; i < length; i++) {
                writeByte(byteOf(word, i));
            }
        }

        private void writeValue(Store store, Handover handover, int kind, int number, int depth) {
            if (outcome != GOING) {
                return;
            }
            if (depth > DEEPEST || kind == SIGN) {
                outcome = IMPOSSIBLE;
                return;
            }
            if (kind == OBJECT) {
                writeObject(store, handover, number, depth);
                return;
            }
            writeByte(kind);
            if (kind == NUMBER) {
                writeZigzag(number);
            } else if (kind == TEXT) {
                writeWord(number, textLength(number));
            }
        }

        private static int textLength(int number) {
            int length = 0;
            while (length < MOST_TEXT_BYTES && byteOf(number, length) != 0) {
                length++;
            }
            return length;
        }

        private void writeObject(Store store, Handover handover, int o, int depth) {
            Thing thing = store.thingAt(o);
            if (thing == null) {
                outcome = IMPOSSIBLE;
            } else if (places[o] != NONE) {
                writeByte(ROW_MARK);
                writeLengthy(places[o]);
            } else if (handover.placeOf(o) != NONE) {
                writeByte(HANDED_MARK);
                writeLengthy(handover.placeOf(o));
            } else if (thing.sort == ACTOR || thing.detached) {
                outcome = IMPOSSIBLE;
            } else if (thing.sort == VIEW) {
                writeView(store, handover, thing, depth);
                givePlace(o);
            } else {
                givePlace(o);
                writeParts(store, handover, thing, depth);
            }
        }

        private void givePlace(int o) {
            places[o] = placeCount;
            placeCount++;
        }

        private void writeView(Store store, Handover handover, Thing view, int depth) {
            writeByte(FIRST_TYPE_MARK + VIEW);
            writeByte(view.unit);
            writeByte(view.from);
            writeByte(view.count);
            writeValue(store, handover, OBJECT, view.viewed, depth + 1);
        }

        private void writeParts(Store store, Handover handover, Thing thing, int depth) {
            writeByte(FIRST_TYPE_MARK + thing.sort);
            switch (thing.sort) {
                case RECORD:
                    writeRecord(store, handover, thing, depth);
                    break;
                case LIST:
                    writeList(store, handover, thing, depth);
                    break;
                case MAP:
                    writeMap(store, handover, thing, depth);
                    break;
                case SET:
                    writeSet(store, handover, thing, depth);
                    break;
                case BUFFER:
                    writeWord(thing.word, thing.count);
                    break;
                default:
                    writeZigzag(thing.word);
                    break;
            }
        }

        private void writeRecord(Store store, Handover handover, Thing record, int depth) {
            int count = record.count;
            int[] keys = keysAtDepth[depth];
            System.arraycopy(record.keys, 0, keys, 0, count);
            for (int i = 0; i < count && outcome == GOING; i++) {
                int at = record.indexOfKey(NUMBER, keys[i]);
                if (at != NONE) {
                    writeProperty(store, handover, record, at, depth);
                }
            }
            writeByte(0);
        }

        private void writeProperty(Store store, Handover handover, Thing record, int at, int depth) {
            int key = record.keys[at];
            int kind = record.kinds[at];
            int number = record.numbers[at];
            if (kind == GETTER) {
                runGetter(store, record, number);
                kind = NUMBER;
                number = Math.floorDiv(number, 8);
            }
            writeByte(1);
            writeZigzag(key);
            writeValue(store, handover, kind, number, depth + 1);
        }

        private void runGetter(Store store, Thing record, int number) {
            int argument = Math.floorDiv(number, 8);
            switch (Math.floorMod(number, 8)) {
                case THROWS:
                    outcome = HARMED;
                    break;
                case TAKES:
                    record.dropProperty(argument);
                    break;
                case GIVES:
                    if (record.indexOfKey(NUMBER, argument) == NONE) {
                        record.setProperty(argument, NUMBER, GIVEN_NUMBER);
                    }
                    break;
                case DETACHES:
                    store.detachBuffer(argument);
                    break;
                default:
                    break;
            }
        }

        private void writeList(Store store, Handover handover, Thing list, int depth) {
            writeByte(list.count);
            for (int i = 0; i < list.count; i++) {
                if (list.kinds[i] == NONE) {
                    writeByte(0);
                } else {
                    writeByte(1);
                    writeValue(store, handover, list.kinds[i], list.numbers[i], depth + 1);
                }
            }
        }

        private void writeMap(Store store, Handover handover, Thing map, int depth) {
            writeByte(map.count);
            for (int i = 0; i < map.count; i++) {
                writeValue(store, handover, map.keyKinds[i], map.keys[i], depth + 1);
                writeValue(store, handover, map.kinds[i], map.numbers[i], depth + 1);
            }
        }

        private void writeSet(Store store, Handover handover, Thing set, int depth) {
            writeByte(set.count);
            for (int i = 0; i < set.count; i++) {
                writeValue(store, handover, set.kinds[i], set.numbers[i], depth + 1);
            }
        }
    }

    /** Makes objects behind those that there are; the store forgets them when the bytes are wrong. */
    private static final class Reader {
        int position;
        boolean wrong;
        /** The value that was read last. */
        int kind;
        int number;
        int firstHanded;
        int handedCount;
        int firstInRow;

        boolean run(Store store, Bytes bytes, Handover handover) {
            int before = store.count;
            position = 0;
            wrong = false;
            makeHanded(store, handover);
            if (nextByte(bytes) != START) {
                wrong = true;
            }
            readValue(store, bytes, 1);
            if (position != bytes.count) {
                wrong = true;
            }
            if (wrong) {
                store.count = before;
            }
            return !wrong;
        }

        private void makeHanded(Store store, Handover handover) {
            firstHanded = store.count;
            handedCount = handover.holderCount;
            for (int i = 0; i < handedCount; i++) {
                Thing buffer = beginThing(store, BUFFER);
                if (buffer != null) {
                    buffer.holdBytes(handover.words[i], handover.lengths[i]);
                }
            }
            firstInRow = store.count;
        }

        private Thing beginThing(Store store, int sort) {
            int made = store.begin(sort);
            if (made == NONE) {
                wrong = true;
            }
            return store.thingAt(made);
        }

        private int nextByte(Bytes bytes) {
            if (wrong || position >= bytes.count) {
                wrong = true;
                return 0;
            }
            position++;
            return bytes.row[position - 1];
        }

        private int nextUpTo(Bytes bytes, int most) {
            int b = nextByte(bytes);
            if (b > most) {
                wrong = true;
                return 0;
            }
            return b;
        }

        private long nextLengthy(Bytes bytes) {
            long sum = 0;
            for (int i = 0; i < MOST_LENGTHY_BYTES; i++) {
                int b = nextByte(bytes);
                sum |= (long) (b & 127) << (7 * i);
                if (b < 128) {
                    boolean needless = i > 0 && b == 0;
                    boolean tooLarge = i == MOST_LENGTHY_BYTES - 1 && b > 1;
                    wrong = wrong || needless || tooLarge;
                    return sum;
                }
            }
            wrong = true;
            return sum;
        }

        private long nextZigzag(Bytes bytes) {
            long lengthy = nextLengthy(bytes);
            return (lengthy >>> 1) ^ -(lengthy & 1);
        }

        private int nextInt(Bytes bytes) {
            long whole = nextZigzag(bytes);
            if (whole != (int) whole) {
                wrong = true;
            }
            return (int) whole;
        }

        private long nextWord(Bytes bytes, int length) {
            long word = 0;
            for (int i = 0; i < length; i++) {
                word |= (long) nextByte(bytes) << (8 * i);
            }
            return word;
        }

        private void settle(int newKind, int newNumber) {
            kind = newKind;
            number = newNumber;
        }

        private void readValue(Store store, Bytes bytes, int depth) {
            if (depth > DEEPEST) {
                wrong = true;
            }
            int mark = nextUpTo(bytes, LAST_MARK);
            if (wrong) {
                return;
            }
            switch (mark) {
                case NUMBER:
                    settle(NUMBER, nextInt(bytes));
                    break;
                case TEXT:
                    readText(bytes);
                    break;
                case ROW_MARK:
                    readPlace(bytes, firstInRow, store.count - firstInRow);
                    break;
                case HANDED_MARK:
                    readPlace(bytes, firstHanded, handedCount);
                    break;
                case FIRST_TYPE_MARK + VIEW:
                    readView(store, bytes, depth);
                    break;
                default:
                    if (mark <= TRUE) {
                        settle(mark, 0);
                    } else {
                        readObject(store, bytes, mark - FIRST_TYPE_MARK, depth);
                    }
                    break;
            }
        }

        private void readText(Bytes bytes) {
            int length = nextUpTo(bytes, MOST_TEXT_BYTES);
            int text = (int) nextWord(bytes, length);
            for (int i = 0; i < length; i++) {
                if (byteOf(text, i) == 0) {
                    wrong = true;
                }
            }
            settle(TEXT, text);
        }

        private void readPlace(Bytes bytes, int first, int count) {
            long place = nextLengthy(bytes);
            if (place < 0 || place >= count) {
                wrong = true;
                return;
            }
            settle(OBJECT, first + (int) place);
        }

        private void readView(Store store, Bytes bytes, int depth) {
            int unit = nextByte(bytes);
            int from = nextByte(bytes);
            int count = nextByte(bytes);
            readValue(store, bytes, depth + 1);
            if (wrong) {
                return;
            }
            int viewed = number;
            Thing buffer = store.thingAt(viewed);
            if (kind != OBJECT || buffer == null || !buffer.canBeViewed(unit, from, count)) {
                wrong = true;
                return;
            }
            Thing view = beginThing(store, VIEW);
            if (view != null) {
                view.lookAt(viewed, unit, from, count);
                settle(OBJECT, store.count - 1);
            }
        }

        private void readObject(Store store, Bytes bytes, int sort, int depth) {
            // Kept, since what is in the object is made before the value is settled.
            int made = store.count;
            Thing thing = beginThing(store, sort);
            if (thing == null) {
                return;
            }
            switch (sort) {
                case RECORD:
                    readRecord(store, bytes, thing, depth);
                    break;
                case LIST:
                    readList(store, bytes, thing, depth);
                    break;
                case MAP:
                    readMap(store, bytes, thing, depth);
                    break;
                case SET:
                    readSet(store, bytes, thing, depth);
                    break;
                case BUFFER:
                    readBuffer(bytes, thing);
                    break;
                default:
                    thing.word = nextZigzag(bytes);
                    break;
            }
            settle(OBJECT, made);
        }

        private void readRecord(Store store, Bytes bytes, Thing record, int depth) {
            // One turn more than there may be properties: the last one finds the end, or is refused.
            for (int i = 0; i <= MOST_PROPERTIES; i++) {
                int more = nextUpTo(bytes, 1);
                if (wrong || more == 0) {
                    return;
                }
                int key = nextInt(bytes);
                readValue(store, bytes, depth + 1);
                if (wrong || record.indexOfKey(NUMBER, key) != NONE
                        || !record.setProperty(key, kind, number)) {
                    wrong = true;
                    return;
                }
            }
        }

        private void readList(Store store, Bytes bytes, Thing list, int depth) {
            int length = nextUpTo(bytes, MOST_PLACES);
            for (int i = 0; i < length && !wrong; i++) {
                int filled = nextUpTo(bytes, 1);
                if (filled == 1) {
                    readValue(store, bytes, depth + 1);
                    list.setPlace(i, kind, number);
                } else {
                    list.setPlace(i, NONE, 0);
                }
            }
        }

        private void readMap(Store store, Bytes bytes, Thing map, int depth) {
            int count = nextUpTo(bytes, MOST_ENTRIES);
            for (int i = 0; i < count && !wrong; i++) {
                readValue(store, bytes, depth + 1);
                int keyKind = kind;
                int key = number;
                readValue(store, bytes, depth + 1);
                if (wrong || map.indexOfKey(keyKind, key) != NONE
                        || !map.setEntry(keyKind, key, kind, number)) {
                    wrong = true;
                }
            }
        }

        private void readSet(Store store, Bytes bytes, Thing set, int depth) {
            int count = nextUpTo(bytes, MOST_MEMBERS);
            for (int i = 0; i < count && !wrong; i++) {
                readValue(store, bytes, depth + 1);
                if (wrong || set.hasMember(kind, number) || !set.appendMember(kind, number)) {
                    wrong = true;
                }
            }
        }

        private void readBuffer(Bytes bytes, Thing buffer) {
            int length = nextUpTo(bytes, MOST_BUFFER_BYTES);
            buffer.holdBytes(nextWord(bytes, length), length);
        }
    }
}

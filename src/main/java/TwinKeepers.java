import java.util.ArrayList;
import java.util.Arrays;

/**
 * Two machines on which the entries of a log are done: sessions in which each command is done once
 * however often it comes, and an ordered map of bytes.
 */
public final class TwinKeepers {

    /** Nothing there. */
    public static final int NONE = -1;

    private static final int MOST_SESSIONS = 16;
    private static final int MOST_KEYS = 128;
    private static final int MOST_UNITS = 700;
    private static final int BYTES_OF_UNIT = 16;
    private static final int MOST_KEY_BYTES = 32;
    private static final int MOST_VALUE_BYTES = 100;
    private static final int MOST_TAPE_BYTES = 300;
    private static final int MOST_FED_AT_ONCE = 8;
    private static final int LAST_PLACE = 1000000;

    private static final int PUT = 0;
    private static final int SWAP = 1;
    private static final int REMOVE = 2;
    private static final int GET = 3;
    private static final int COUNT = 4;
    private static final int NEXT = 5;

    private static final int DONE = 0;
    private static final int AGAIN = 1;
    private static final int NO_SESSION = 2;
    private static final int BELOW = 3;

    // The first byte of an answer.
    private static final int NO = 0;
    private static final int YES = 1;
    private static final int TOO_MANY = 2;
    private static final int NO_KEY = 3;

    private static final byte[] EMPTY = {};

    private final Machine first;
    private final Machine second;
    private final byte[] tape;
    private final Row result;
    private int tapeSize;
    private int latestPlace;

    public TwinKeepers() {
        first = new Machine();
        second = new Machine();
        tape = new byte[MOST_TAPE_BYTES];
        result = new Row();
        tapeSize = 0;
        latestPlace = 0;
    }

    public int feed(long eight, int n) throws IllegalArgumentException, IllegalStateException {
        if (n < 1 || n > MOST_FED_AT_ONCE) {
            throw new IllegalArgumentException("n is not 1 .. 8");
        }
        if (tapeSize + n > MOST_TAPE_BYTES) {
            throw new IllegalStateException("the tape would have more than 300 bytes");
        }
        for (int i = 0; i < n; i++) {
            tape[tapeSize + i] = (byte) (eight >>> (8 * i));
        }
        tapeSize += n;
        return tapeSize;
    }

    public int open(int machine, int place) throws IndexOutOfBoundsException, IllegalArgumentException {
        Machine keeper = machineOf(machine);
        if (!keeper.takes(place)) {
            throw new IllegalArgumentException("place is not 1 to 1000000 and above those before");
        }
        keeper.addSession(place);
        latestPlace = place;
        return keeper.sessions.size();
    }

    public int run(int machine, int place, int session, int serial, int shape)
            throws IndexOutOfBoundsException, IllegalArgumentException {
        int fed = takeTape();
        Machine keeper = machineOf(machine);
        if (!keeper.takes(place)) {
            throw new IllegalArgumentException("place is not 1 to 1000000 and above those before");
        }
        if (serial < 0 || !isOperation(shape, fed)) {
            throw new IllegalArgumentException("serial is below 0, or shape and tape are no operation");
        }
        keeper.greatestPlace = place;
        latestPlace = place;
        result.empty();
        int at = keeper.indexOfSession(session);
        if (at == NONE) {
            return NO_SESSION;
        }
        Session known = keeper.sessions.get(at).usedAt(place);
        keeper.sessions.set(at, known);
        if (serial < known.serial) {
            return BELOW;
        }
        if (serial == known.serial) {
            result.addAll(known.answer);
            latestPlace = known.answerPlace;
            return AGAIN;
        }
        operate(keeper.map, shape, fed);
        keeper.sessions.set(at, known.answered(serial, place, result.copied()));
        return DONE;
    }

    public int read(int machine, int shape) throws IndexOutOfBoundsException, IllegalArgumentException {
        int fed = takeTape();
        Machine keeper = machineOf(machine);
        if (!isReading(shape, fed)) {
            throw new IllegalArgumentException("shape and tape are no reading");
        }
        result.empty();
        look(keeper.map, shape, fed);
        return result.size;
    }

    public int row(int machine) throws IndexOutOfBoundsException {
        Machine keeper = machineOf(machine);
        result.empty();
        keeper.tell(result);
        return result.size;
    }

    public boolean make(int from, int to) throws IndexOutOfBoundsException {
        Machine source = machineOf(from);
        Machine target = machineOf(to);
        // Machines whose rows are the same need no copy; so a machine is never emptied to be copied from itself.
        boolean different = !source.hasRowOf(target);
        if (different) {
            target.copyRowOf(source);
        }
        target.greatestPlace = Math.max(target.greatestPlace, source.greatestPlace);
        return different;
    }

    public int clear(int machine) throws IndexOutOfBoundsException {
        Machine keeper = machineOf(machine);
        int keys = keeper.map.entries.size();
        keeper.forget();
        return keys;
    }

    public int session(int machine, int k, int what) throws IndexOutOfBoundsException {
        Machine keeper = machineOf(machine);
        if (k < 0 || k >= keeper.sessions.size()) {
            throw new IndexOutOfBoundsException("no such session");
        }
        Session asked = keeper.sessions.get(k);
        switch (what) {
            case 0:
                return asked.number;
            case 1:
                return asked.used;
            case 2:
                return asked.serial;
            case 3:
                return asked.answerPlace;
            case 4:
                return asked.answer.length;
            default:
                throw new IndexOutOfBoundsException("no such thing of a session");
        }
    }

    public int key(int machine, int k, int what) throws IndexOutOfBoundsException {
        Machine keeper = machineOf(machine);
        if (k < 0 || k >= keeper.map.entries.size()) {
            throw new IndexOutOfBoundsException("no such key");
        }
        if (what < 0 || what > 1) {
            throw new IndexOutOfBoundsException("no such thing of a key");
        }
        Entry asked = keeper.map.entries.get(k);
        result.empty();
        result.addAll(what == 0 ? asked.key : asked.value);
        return result.size;
    }

    public int state(int machine, int what) throws IndexOutOfBoundsException {
        Machine keeper = machineOf(machine);
        switch (what) {
            case 0:
                return keeper.sessions.size();
            case 1:
                return keeper.map.entries.size();
            case 2:
                return keeper.map.units;
            case 3:
                return keeper.rowBytes();
            case 4:
                return keeper.greatestPlace;
            default:
                throw new IndexOutOfBoundsException("no such thing of a machine");
        }
    }

    public int place() {
        return latestPlace;
    }

    public int byteAt(int i) throws IndexOutOfBoundsException {
        if (i < 0 || i >= result.size) {
            throw new IndexOutOfBoundsException("the result has no such byte");
        }
        return result.bytes[i] & 255;
    }

    private Machine machineOf(int machine) {
        if (machine < 0 || machine > 1) {
            throw new IndexOutOfBoundsException("no such machine");
        }
        return machine == 0 ? first : second;
    }

    /** Empties the tape and answers how many bytes it had; they stay in their room until the next feed. */
    private int takeTape() {
        int fed = tapeSize;
        tapeSize = 0;
        return fed;
    }

    private static int kindOf(int shape) {
        return shape & 7;
    }

    private static int operationKeySize(int shape) {
        return (shape >> 3) & 63;
    }

    private static int expectedSize(int shape) {
        return shape >> 9;
    }

    private static int readingKeySize(int shape) {
        return shape >> 3;
    }

    private static boolean isKeySize(int size) {
        return size >= 1 && size <= MOST_KEY_BYTES;
    }

    private static boolean isValueSize(int size) {
        return size >= 0 && size <= MOST_VALUE_BYTES;
    }

    private static boolean isOperation(int shape, int fed) {
        int kind = kindOf(shape);
        if (shape < 0 || kind > REMOVE) {
            return false;
        }
        int expected = expectedSize(shape);
        int value = fed - operationKeySize(shape) - expected;
        return isKeySize(operationKeySize(shape))
                && (kind == SWAP ? isValueSize(expected) : expected == 0)
                && (kind == REMOVE ? value == 0 : isValueSize(value));
    }

    private static boolean isReading(int shape, int fed) {
        int kind = kindOf(shape);
        if (shape < 0 || kind < GET || kind > NEXT) {
            return false;
        }
        int behind = fed - readingKeySize(shape);
        return isKeySize(readingKeySize(shape)) && (kind == COUNT ? isKeySize(behind) : behind == 0);
    }

    /** Does what isOperation() has found to be one, so that its parts lie within the tape. */
    private void operate(KeyMap map, int shape, int fed) {
        int keyEnd = operationKeySize(shape);
        int expectedEnd = keyEnd + expectedSize(shape);
        byte[] key = Arrays.copyOfRange(tape, 0, keyEnd);
        byte[] value = Arrays.copyOfRange(tape, expectedEnd, fed);
        switch (kindOf(shape)) {
            case PUT:
                map.put(key, value, result);
                break;
            case SWAP:
                map.swap(key, Arrays.copyOfRange(tape, keyEnd, expectedEnd), value, result);
                break;
            default:
                map.remove(key, result);
                break;
        }
    }

    /** Does what isReading() has found to be one, so that its parts lie within the tape. */
    private void look(KeyMap map, int shape, int fed) {
        int keyEnd = readingKeySize(shape);
        byte[] key = Arrays.copyOfRange(tape, 0, keyEnd);
        switch (kindOf(shape)) {
            case GET:
                map.get(key, result);
                break;
            case COUNT:
                map.count(key, Arrays.copyOfRange(tape, keyEnd, fed), result);
                break;
            default:
                map.next(key, result);
                break;
        }
    }

    /** Below 0, 0 or above 0, as one row of bytes comes before the other, is the same, or comes behind it. */
    private static int compare(byte[] one, byte[] other) {
        int shared = Math.min(one.length, other.length);
        for (int i = 0; i < shared; i++) {
            int apart = (one[i] & 255) - (other[i] & 255);
            if (apart != 0) {
                return apart;
            }
        }
        return one.length - other.length;
    }

    /** A session as it is at one time; a later time has another object, so that machines may share it. */
    private static final class Session {
        private static final int ROW_BYTES_BUT_ANSWER = 18;

        final int number;
        final int used;
        final int serial;
        final int answerPlace;
        final byte[] answer;

        Session(int number, int used, int serial, int answerPlace, byte[] answer) {
            this.number = number;
            this.used = used;
            this.serial = serial;
            this.answerPlace = answerPlace;
            this.answer = answer;
        }

        Session usedAt(int place) {
            return new Session(number, place, serial, answerPlace, answer);
        }

        Session answered(int newSerial, int place, byte[] newAnswer) {
            return new Session(number, place, newSerial, place, newAnswer);
        }

        boolean isLike(Session other) {
            return number == other.number && used == other.used && serial == other.serial
                    && answerPlace == other.answerPlace && compare(answer, other.answer) == 0;
        }

        int rowBytes() {
            return ROW_BYTES_BUT_ANSWER + answer.length;
        }

        void tell(Row row) {
            row.addNumber(number, 4);
            row.addNumber(used, 4);
            row.addNumber(serial, 4);
            row.addNumber(answerPlace, 4);
            row.addNumber(answer.length, 2);
            row.addAll(answer);
        }
    }

    /** A key with a value; neither ever changes, so that machines may share it. */
    private static final class Entry {
        private static final int ROW_BYTES_BUT_KEY_AND_VALUE = 3;

        final byte[] key;
        final byte[] value;

        Entry(byte[] key, byte[] value) {
            this.key = key;
            this.value = value;
        }

        int units() {
            return (key.length + value.length + BYTES_OF_UNIT - 1) / BYTES_OF_UNIT;
        }

        boolean isLike(Entry other) {
            return compare(key, other.key) == 0 && compare(value, other.value) == 0;
        }

        int rowBytes() {
            return ROW_BYTES_BUT_KEY_AND_VALUE + key.length + value.length;
        }

        void tell(Row row) {
            row.addNumber(key.length, 1);
            row.addNumber(value.length, 2);
            row.addAll(key);
            row.addAll(value);
        }
    }

    /** The keys in order. What is done or read here puts its answer behind the row that it is given. */
    private static final class KeyMap {
        final ArrayList<Entry> entries = new ArrayList<>();
        int units = 0;

        /** The index of the least key that is not below the given one; how many there are, when all are below. */
        int firstNotBelow(byte[] key) {
            for (int i = 0; i < entries.size(); i++) {
                if (compare(entries.get(i).key, key) >= 0) {
                    return i;
                }
            }
            return entries.size();
        }

        boolean isAt(int at, byte[] key) {
            return at < entries.size() && compare(entries.get(at).key, key) == 0;
        }

        int indexOf(byte[] key) {
            int at = firstNotBelow(key);
            return isAt(at, key) ? at : NONE;
        }

        void put(byte[] key, byte[] value, Row answer) {
            int at = firstNotBelow(key);
            boolean had = isAt(at, key);
            byte[] before = had ? entries.get(at).value : EMPTY;
            boolean done = had ? replace(at, value) : insert(at, key, value);
            if (!done) {
                answer.addNumber(TOO_MANY, 1);
                return;
            }
            answer.addNumber(had ? YES : NO, 1);
            answer.addAll(before);
        }

        void swap(byte[] key, byte[] expected, byte[] value, Row answer) {
            int at = indexOf(key);
            if (at == NONE) {
                answer.addNumber(NO_KEY, 1);
                return;
            }
            byte[] before = entries.get(at).value;
            if (compare(before, expected) != 0) {
                answer.addNumber(NO, 1);
                answer.addAll(before);
                return;
            }
            answer.addNumber(replace(at, value) ? YES : TOO_MANY, 1);
        }

        void remove(byte[] key, Row answer) {
            int at = indexOf(key);
            tellValue(at, answer);
            if (at != NONE) {
                units -= entries.get(at).units();
                entries.remove(at);
            }
        }

        void get(byte[] key, Row answer) {
            tellValue(indexOf(key), answer);
        }

        private void tellValue(int at, Row answer) {
            if (at == NONE) {
                answer.addNumber(NO, 1);
                return;
            }
            answer.addNumber(YES, 1);
            answer.addAll(entries.get(at).value);
        }

        void count(byte[] low, byte[] high, Row answer) {
            answer.addNumber(Math.max(0, firstNotBelow(high) - firstNotBelow(low)), 2);
        }

        void next(byte[] key, Row answer) {
            int at = firstNotBelow(key);
            if (at >= entries.size()) {
                answer.addNumber(NO, 1);
                return;
            }
            Entry found = entries.get(at);
            answer.addNumber(YES, 1);
            answer.addNumber(found.key.length, 1);
            answer.addAll(found.key);
            answer.addAll(found.value);
        }

        private boolean insert(int at, byte[] key, byte[] value) {
            Entry entry = new Entry(key, value);
            if (entries.size() >= MOST_KEYS || units + entry.units() > MOST_UNITS) {
                return false;
            }
            entries.add(at, entry);
            units += entry.units();
            return true;
        }

        private boolean replace(int at, byte[] value) {
            Entry before = entries.get(at);
            Entry entry = new Entry(before.key, value);
            int unitsThen = units - before.units() + entry.units();
            if (unitsThen > MOST_UNITS) {
                return false;
            }
            entries.set(at, entry);
            units = unitsThen;
            return true;
        }
    }

    /** Sessions, by their numbers, and a map. Its row tells all but the greatest place. */
    private static final class Machine {
        private static final int ROW_BYTES_OF_COUNTS = 8;

        final ArrayList<Session> sessions = new ArrayList<>();
        final KeyMap map = new KeyMap();
        int greatestPlace = 0;

        boolean takes(int place) {
            return place > greatestPlace && place <= LAST_PLACE;
        }

        void addSession(int place) {
            if (sessions.size() >= MOST_SESSIONS) {
                sessions.remove(longestUnused());
            }
            // Behind the others: a place is above all numbers before.
            sessions.add(new Session(place, place, 0, place, EMPTY));
            greatestPlace = place;
        }

        int indexOfSession(int number) {
            for (int i = 0; i < sessions.size(); i++) {
                if (sessions.get(i).number == number) {
                    return i;
                }
            }
            return NONE;
        }

        private int longestUnused() {
            int oldest = 0;
            for (int i = 1; i < sessions.size(); i++) {
                if (sessions.get(i).used < sessions.get(oldest).used) {
                    oldest = i;
                }
            }
            return oldest;
        }

        void forget() {
            sessions.clear();
            map.entries.clear();
            map.units = 0;
        }

        void copyRowOf(Machine other) {
            forget();
            for (int i = 0; i < other.sessions.size(); i++) {
                sessions.add(other.sessions.get(i));
            }
            for (int i = 0; i < other.map.entries.size(); i++) {
                map.entries.add(other.map.entries.get(i));
            }
            map.units = other.map.units;
        }

        boolean hasRowOf(Machine other) {
            return hasSessionsOf(other) && hasEntriesOf(other);
        }

        private boolean hasSessionsOf(Machine other) {
            if (sessions.size() != other.sessions.size()) {
                return false;
            }
            for (int i = 0; i < sessions.size(); i++) {
                if (!sessions.get(i).isLike(other.sessions.get(i))) {
                    return false;
                }
            }
            return true;
        }

        private boolean hasEntriesOf(Machine other) {
            if (map.entries.size() != other.map.entries.size()) {
                return false;
            }
            for (int i = 0; i < map.entries.size(); i++) {
                if (!map.entries.get(i).isLike(other.map.entries.get(i))) {
                    return false;
                }
            }
            return true;
        }

        int rowBytes() {
            int bytes = ROW_BYTES_OF_COUNTS;
            for (int i = 0; i < sessions.size(); i++) {
                bytes += sessions.get(i).rowBytes();
            }
            for (int i = 0; i < map.entries.size(); i++) {
                bytes += map.entries.get(i).rowBytes();
            }
            return bytes;
        }

        void tell(Row row) {
            row.addNumber(sessions.size(), 4);
            for (int i = 0; i < sessions.size(); i++) {
                sessions.get(i).tell(row);
            }
            row.addNumber(map.entries.size(), 4);
            for (int i = 0; i < map.entries.size(); i++) {
                map.entries.get(i).tell(row);
            }
        }
    }

    /** A row of bytes that is used again and again; its room grows only for the row of a machine. */
    private static final class Row {
        private static final int FIRST_ROOM = 256;
        // Above 8 + 16 * (18 + 101) + 128 * 3 + 700 * 16 bytes, so that no row of a machine is cut off.
        private static final int MOST_ROOM = 16384;

        byte[] bytes = new byte[FIRST_ROOM];
        int size = 0;

        void empty() {
            size = 0;
        }

        void addNumber(int number, int width) {
            for (int i = 0; i < width; i++) {
                addByte((byte) (number >>> (8 * i)));
            }
        }

        void addAll(byte[] more) {
            for (int i = 0; i < more.length; i++) {
                addByte(more[i]);
            }
        }

        byte[] copied() {
            return Arrays.copyOf(bytes, size);
        }

        private void addByte(byte one) {
            if (size >= bytes.length && bytes.length < MOST_ROOM) {
                bytes = Arrays.copyOf(bytes, 2 * bytes.length);
            }
            if (size < bytes.length) {
                bytes[size] = one;
                size++;
            }
        }
    }
}

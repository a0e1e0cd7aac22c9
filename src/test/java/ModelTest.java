import java.io.ByteArrayOutputStream;
import java.util.ArrayList;
import java.util.Arrays;
import java.util.List;
import java.util.NavigableMap;
import java.util.SortedMap;
import java.util.TreeMap;

/**
 * Runs of calls from fixed seeds, each answer compared with that of a plain model of the document: mixed ones, ones
 * about the limit of 128 keys, and, beyond the calls that the document binds, ones about that of 700 units.
 */
public final class ModelTest {
    private static final int MIXED_RUNS = 4000;
    private static final int RUNS_WITH_ALL_KEYS = 400;
    private static final int RUNS_WITH_ALL_UNITS = 60;
    private static final int BOUND_CALLS = 512;
    private static final int CALLS_WITH_ALL_UNITS = 4000;
    // No step makes more calls (its bytes, itself, a look at its result), nor does the ending.
    private static final int MOST_CALLS_OF_A_STEP = 40;
    private static final int CALLS_OF_THE_ENDING = 41;

    private final Keeper real;
    private final Model model = new Model();
    private final List<String> history = new ArrayList<>();
    private final int alphabet;
    private final int longestKey;
    private final int longestValue;
    private boolean full = false;
    private long seed;

    private ModelTest(Keeper real, long seed, int alphabet, int longestKey, int longestValue) {
        this.real = real;
        this.seed = seed * 7919 + 17;
        this.alphabet = alphabet;
        this.longestKey = longestKey;
        this.longestValue = longestValue;
    }

    public static void main(String[] args) {
        int[] alphabets = {2, 40, 256};
        for (int run = 0; run < MIXED_RUNS; run++) {
            int longest = run % 2 == 0 ? 3 : 32;
            new ModelTest(new Keeper(), run, alphabets[run % 3], longest, longest).go(BOUND_CALLS);
        }
        for (int run = 0; run < RUNS_WITH_ALL_KEYS; run++) {
            ModelTest test = new ModelTest(new Keeper(), run, 256, 1, 1);
            test.need(test.fill(0));
            test.go(BOUND_CALLS);
        }
        for (int run = 0; run < RUNS_WITH_ALL_UNITS; run++) {
            ModelTest test = new ModelTest(Keeper.beyondTheBoundCalls(), run, 256, 32, 100);
            test.need(test.fill(80));
            test.go(CALLS_WITH_ALL_UNITS);
        }
        Probe.end();
    }

    private void go(int calls) {
        while (history.size() <= calls - MOST_CALLS_OF_A_STEP - CALLS_OF_THE_ENDING) {
            need(step());
        }
        need(ending());
    }

    private void need(boolean right) {
        if (!right) {
            System.out.println(String.join("; ", history));
            Probe.end();
        }
    }

    /** Machine 0 up to where few PUTs more are too many. */
    private boolean fill(int shortestValue) {
        boolean right = same("open", 0, 1);
        Machine m = model.machines[0];
        for (int i = 0; right && m.map.size() < 127 && m.units() < 692; i++) {
            byte[] key = bytes(1 + below(longestKey));
            key[0] = (byte) (77 * i);
            byte[] value = bytes(shortestValue == 0 ? 0 : shortestValue + below(101 - shortestValue));
            right = feedAll(joined(key, value)) && same("run", 0, 2 + i, 1, 1 + i, 8 * key.length);
        }
        full = true;
        return right;
    }

    /** Both machines as far as so few calls can tell. */
    private boolean ending() {
        boolean right = same("place") && look();
        for (int machine = 0; machine < 2; machine++) {
            for (int what = 0; what < 5; what++) {
                right = right && same("state", machine, what);
            }
            right = right && same("row", machine) && look() && look() && look();
        }
        return right;
    }

    /** Of the result the first byte, one of all, the last one and the first that is not there. */
    private boolean look() {
        int size = model.result.length;
        return same("byteAt", 0) && same("byteAt", below(size + 1)) && same("byteAt", size - 1)
                && same("byteAt", size);
    }

    private int below(int bound) {
        seed = seed * 6364136223846793005L + 1442695040888963407L;
        return (int) Math.floorMod(seed >>> 33, (long) bound);
    }

    /** Mostly 0 or 1. */
    private int machine() {
        return below(60) == 0 ? below(5) - 2 : below(3) / 2;
    }

    private int placeFor(int machine) {
        int last = machine == 0 || machine == 1 ? model.machines[machine].greatest : 0;
        int chance = below(60);
        return chance == 0 ? last : chance == 1 ? 1000001 : chance == 2 ? below(20) - 10 : last + 1 + below(3);
    }

    private int sessionFor(int machine) {
        if (machine < 0 || machine > 1 || model.machines[machine].sessions.isEmpty() || below(30) == 0) {
            return below(30) - 1;
        }
        List<int[]> sessions = model.machines[machine].sessions;
        return sessions.get(below(sessions.size()))[0];
    }

    private int serialFor(int machine, int session) {
        int at = machine < 0 || machine > 1 ? -1 : model.machines[machine].find(session);
        int own = at < 0 ? 0 : model.machines[machine].sessions.get(at)[2];
        return below(4) == 0 ? own - below(3) : own + 1 + below(2);
    }

    private boolean step() {
        int chance = below(100);
        if (chance < 12) {
            int machine = machine();
            return same("open", machine, placeFor(machine));
        }
        if (chance < 52) {
            return command();
        }
        if (chance < 70) {
            return reading();
        }
        if (chance < 74) {
            return sameFeed(seed, below(12) - 1);
        }
        if (chance < 77) {
            return same("row", machine()) && look();
        }
        if (chance < 80) {
            return full && below(2) == 0 ? same("make", 0, 1) : same("make", machine(), full ? 1 : machine());
        }
        if (chance < 81) {
            return full || same("clear", machine());
        }
        if (chance < 86) {
            return same("session", machine(), below(18) - 1, below(7) - 1);
        }
        if (chance < 92) {
            return same("key", machine(), someK(), below(30) == 0 ? below(5) - 2 : below(2)) && look();
        }
        if (chance < 97) {
            return same("state", machine(), below(7) - 1);
        }
        return same("place");
    }

    private int someK() {
        return below(Math.max(model.machines[0].map.size(), model.machines[1].map.size()) + 2) - 1;
    }

    private byte[] bytes(int size) {
        byte[] made = new byte[size];
        for (int i = 0; i < size; i++) {
            made[i] = (byte) below(alphabet);
        }
        return made;
    }

    private byte[] someKey(int machine) {
        Machine m = model.machines[machine == 1 ? 1 : 0];
        if (!m.map.isEmpty() && below(2) == 0) {
            return new ArrayList<>(m.map.keySet()).get(below(m.map.size()));
        }
        return bytes(below(40) == 0 ? below(40) : 1 + below(longestKey));
    }

    private byte[] someValue() {
        return bytes(below(40) == 0 ? 90 + below(15) : below(longestValue));
    }

    private boolean feedAll(byte[] bytes) {
        boolean right = true;
        for (int from = 0; from < bytes.length && right; from += 8) {
            int n = Math.min(8, bytes.length - from);
            long eight = -1;
            for (int i = n - 1; i >= 0; i--) {
                eight = eight << 8 | bytes[from + i] & 255;
            }
            right = sameFeed(eight, n);
        }
        return right;
    }

    private boolean command() {
        int machine = machine();
        int operation = below(40) == 0 ? below(8) : full && below(3) > 0 ? Probe.PUT : below(3);
        byte[] key = someKey(machine);
        byte[] expected = {};
        if (operation == Probe.SWAP || below(60) == 0) {
            byte[] held = model.machines[machine == 1 ? 1 : 0].map.get(key);
            expected = held != null && below(3) > 0 ? held : someValue();
        }
        byte[] value = operation == Probe.REMOVE && below(30) > 0 ? new byte[0] : someValue();
        int shape = operation + 8 * key.length + 512 * expected.length;
        if (below(60) == 0) {
            shape += below(5) - 2;
        }
        int session = sessionFor(machine);
        return feedAll(joined(key, expected, value))
                && same("run", machine, placeFor(machine), session, serialFor(machine, session), shape)
                && (below(3) > 0 || look());
    }

    private boolean reading() {
        int machine = machine();
        int kind = below(40) == 0 ? below(8) : 3 + below(3);
        byte[] key = someKey(machine);
        byte[] second = kind == Probe.COUNT || below(40) == 0 ? someKey(machine) : new byte[0];
        int shape = kind + 8 * key.length + (below(60) == 0 ? 512 : 0);
        return feedAll(joined(key, second)) && same("read", machine, shape) && look();
    }

    private static byte[] joined(byte[]... parts) {
        ByteArrayOutputStream all = new ByteArrayOutputStream();
        for (byte[] part : parts) {
            all.writeBytes(part);
        }
        return all.toByteArray();
    }

    private boolean sameFeed(long eight, int n) {
        return compared("feed(" + eight + ", " + n + ")", realAnswer("feed", eight, n), model.answer("feed", eight, n));
    }

    private boolean same(String name, int... a) {
        long[] wide = new long[a.length];
        for (int i = 0; i < a.length; i++) {
            wide[i] = a[i];
        }
        return compared(name + Arrays.toString(wide), realAnswer(name, wide), model.answer(name, wide));
    }

    private boolean compared(String what, String got, String want) {
        history.add(what + " -> " + want);
        Probe.due(what, got, want);
        return got.equals(want);
    }

    private String realAnswer(String name, long... a) {
        try {
            return String.valueOf(realCall(name, a));
        } catch (RuntimeException e) {
            return Probe.named(e);
        }
    }

    private long realCall(String name, long... a) {
        switch (name) {
            case "feed": return real.feed(a[0], (int) a[1]);
            case "open": return real.open((int) a[0], (int) a[1]);
            case "run": return real.run((int) a[0], (int) a[1], (int) a[2], (int) a[3], (int) a[4]);
            case "read": return real.read((int) a[0], (int) a[1]);
            case "row": return real.row((int) a[0]);
            case "make": return real.make((int) a[0], (int) a[1]) ? 1 : 0;
            case "clear": return real.clear((int) a[0]);
            case "session": return real.session((int) a[0], (int) a[1], (int) a[2]);
            case "key": return real.key((int) a[0], (int) a[1], (int) a[2]);
            case "state": return real.state((int) a[0], (int) a[1]);
            case "place": return real.place();
            default: return real.byteAt((int) a[0]);
        }
    }

    /** A machine whose sessions are rows of number, USED, serial and the answer's place, beside their answers. */
    private static final class Machine {
        List<int[]> sessions = new ArrayList<>();
        List<byte[]> answers = new ArrayList<>();
        NavigableMap<byte[], byte[]> map = new TreeMap<>(Arrays::compareUnsigned);
        int greatest = 0;

        int find(int number) {
            for (int i = 0; i < sessions.size(); i++) {
                if (sessions.get(i)[0] == number) {
                    return i;
                }
            }
            return -1;
        }

        int units() {
            return units(map);
        }

        static int units(SortedMap<byte[], byte[]> map) {
            int units = 0;
            for (byte[] key : map.keySet()) {
                int bytes = key.length + map.get(key).length;
                units += bytes / 16 + (bytes % 16 > 0 ? 1 : 0);
            }
            return units;
        }

        boolean fits(byte[] key, byte[] value) {
            TreeMap<byte[], byte[]> then = new TreeMap<>(map);
            then.put(key, value);
            return then.size() <= 128 && units(then) <= 700;
        }

        byte[] row() {
            ByteArrayOutputStream out = new ByteArrayOutputStream();
            number(out, sessions.size(), 4);
            for (int i = 0; i < sessions.size(); i++) {
                for (int field : sessions.get(i)) {
                    number(out, field, 4);
                }
                number(out, answers.get(i).length, 2);
                out.writeBytes(answers.get(i));
            }
            number(out, map.size(), 4);
            for (byte[] key : map.keySet()) {
                number(out, key.length, 1);
                number(out, map.get(key).length, 2);
                out.writeBytes(key);
                out.writeBytes(map.get(key));
            }
            return out.toByteArray();
        }

        private static void number(ByteArrayOutputStream out, int value, int width) {
            for (int i = 0; i < width; i++) {
                out.write(value >> (8 * i));
            }
        }
    }

    /** The document's words, as plainly as the Java library lets them be said. */
    private static final class Model {
        final Machine[] machines = {new Machine(), new Machine()};
        byte[] tape = {};
        byte[] result = {};
        int place = 0;

        String answer(String name, long... a) {
            try {
                return String.valueOf(call(name, a));
            } catch (RuntimeException e) {
                return e.getClass().getSimpleName();
            }
        }

        private long call(String name, long... a) {
            int one = a.length > 0 ? (int) a[0] : 0;
            int two = a.length > 1 ? (int) a[1] : 0;
            int three = a.length > 2 ? (int) a[2] : 0;
            switch (name) {
                case "feed": return feed(a[0], two);
                case "open": return open(one, two);
                case "run": return run(one, two, three, (int) a[3], (int) a[4]);
                case "read": return read(one, two);
                case "row": return give(of(one).row());
                case "make": return make(one, two);
                case "clear": return clear(one);
                case "session": return session(one, two, three);
                case "key": return key(one, two, three);
                case "state": return state(one, two);
                case "place": return place;
                default: return byteAt(one);
            }
        }

        private Machine of(int machine) {
            index(machine == 0 || machine == 1);
            return machines[machine];
        }

        private static void index(boolean right) {
            if (!right) {
                throw new IndexOutOfBoundsException();
            }
        }

        private static void argument(boolean right) {
            if (!right) {
                throw new IllegalArgumentException();
            }
        }

        private int give(byte[] bytes) {
            result = bytes;
            return bytes.length;
        }

        private long feed(long eight, int n) {
            argument(n >= 1 && n <= 8);
            if (tape.length + n > 300) {
                throw new IllegalStateException();
            }
            for (int i = 0; i < n; i++) {
                tape = joined(tape, new byte[] {(byte) (eight >> (8 * i))});
            }
            return tape.length;
        }

        private static void placeIsRight(Machine m, int place) {
            argument(place >= 1 && place <= 1000000 && place > m.greatest);
        }

        private long open(int machine, int at) {
            Machine m = of(machine);
            placeIsRight(m, at);
            if (m.sessions.size() == 16) {
                int least = 0;
                for (int i = 0; i < 16; i++) {
                    least = m.sessions.get(i)[1] < m.sessions.get(least)[1] ? i : least;
                }
                m.sessions.remove(least);
                m.answers.remove(least);
            }
            m.sessions.add(new int[] {at, at, 0, at});
            m.answers.add(new byte[0]);
            m.greatest = at;
            place = at;
            return m.sessions.size();
        }

        private long run(int machine, int at, int session, int serial, int shape) {
            byte[] fed = tape;
            tape = new byte[0];
            Machine m = of(machine);
            placeIsRight(m, at);
            argument(serial >= 0 && shape >= 0);
            int operation = shape % 8;
            int keySize = shape / 8 % 64;
            int expectedSize = shape / 512;
            argument(operation <= 2 && keySize >= 1 && keySize <= 32 && expectedSize <= 100);
            argument(operation == 1 || expectedSize == 0);
            argument(fed.length >= keySize + expectedSize);
            byte[] key = Arrays.copyOfRange(fed, 0, keySize);
            byte[] expected = Arrays.copyOfRange(fed, keySize, keySize + expectedSize);
            byte[] value = Arrays.copyOfRange(fed, keySize + expectedSize, fed.length);
            argument(value.length <= 100 && (operation != 2 || value.length == 0));
            m.greatest = at;
            place = at;
            result = new byte[0];
            int k = m.find(session);
            if (k < 0) {
                return 2;
            }
            int[] s = m.sessions.get(k);
            s[1] = at;
            if (serial < s[2]) {
                return 3;
            }
            if (serial == s[2]) {
                place = s[3];
                result = m.answers.get(k);
                return 1;
            }
            s[2] = serial;
            s[3] = at;
            result = operate(m, operation, key, expected, value);
            m.answers.set(k, result);
            return 0;
        }

        private static byte[] operate(Machine m, int operation, byte[] key, byte[] expected, byte[] value) {
            byte[] before = m.map.get(key);
            byte[] no = {0};
            byte[] yes = {1};
            if (operation == 2) {
                m.map.remove(key);
                return before == null ? no : joined(yes, before);
            }
            if (operation == 1 && before == null) {
                return new byte[] {3};
            }
            if (operation == 1 && !Arrays.equals(before, expected)) {
                return joined(no, before);
            }
            if (!m.fits(key, value)) {
                return new byte[] {2};
            }
            m.map.put(key, value);
            return before == null ? no : operation == 1 ? yes : joined(yes, before);
        }

        private long read(int machine, int shape) {
            byte[] fed = tape;
            tape = new byte[0];
            Machine m = of(machine);
            argument(shape >= 0);
            int kind = shape % 8;
            int keySize = shape / 8;
            argument(kind >= 3 && kind <= 5 && keySize >= 1 && keySize <= 32 && fed.length >= keySize);
            byte[] key = Arrays.copyOfRange(fed, 0, keySize);
            byte[] rest = Arrays.copyOfRange(fed, keySize, fed.length);
            argument(kind == 4 ? rest.length >= 1 && rest.length <= 32 : rest.length == 0);
            byte[] yes = {1};
            if (kind == 4) {
                boolean empty = Arrays.compareUnsigned(key, rest) >= 0;
                int count = empty ? 0 : m.map.subMap(key, true, rest, false).size();
                return give(new byte[] {(byte) count, (byte) (count >> 8)});
            }
            byte[] found = kind == 3 ? (m.map.containsKey(key) ? key : null) : m.map.ceilingKey(key);
            if (found == null) {
                return give(new byte[] {0});
            }
            byte[] value = m.map.get(found);
            return give(kind == 3 ? joined(yes, value) : joined(yes, new byte[] {(byte) found.length}, found, value));
        }

        private long make(int from, int to) {
            Machine source = of(from);
            Machine target = of(to);
            boolean different = !Arrays.equals(source.row(), target.row());
            Machine made = new Machine();
            for (int[] session : source.sessions) {
                made.sessions.add(session.clone());
            }
            made.answers.addAll(source.answers);
            made.map.putAll(source.map);
            made.greatest = Math.max(source.greatest, target.greatest);
            machines[to] = made;
            return different ? 1 : 0;
        }

        private long clear(int machine) {
            Machine before = of(machine);
            machines[machine] = new Machine();
            machines[machine].greatest = before.greatest;
            return before.map.size();
        }

        private long session(int machine, int k, int what) {
            Machine m = of(machine);
            index(k >= 0 && k < m.sessions.size() && what >= 0 && what <= 4);
            return what == 4 ? m.answers.get(k).length : m.sessions.get(k)[what];
        }

        private long key(int machine, int k, int what) {
            Machine m = of(machine);
            index(k >= 0 && k < m.map.size() && what >= 0 && what <= 1);
            byte[] key = new ArrayList<>(m.map.keySet()).get(k);
            return give(what == 0 ? key : m.map.get(key));
        }

        private long state(int machine, int what) {
            Machine m = of(machine);
            index(what >= 0 && what <= 4);
            return new int[] {m.sessions.size(), m.map.size(), m.units(), m.row().length, m.greatest}[what];
        }

        private long byteAt(int i) {
            index(i >= 0 && i < result.length);
            return result[i] & 255;
        }
    }
}

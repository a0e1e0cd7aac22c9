/** 'Terms', the MAP: a test for each sentence that names a boundary of keys, values, units and the keys' order. */
public final class EdgesOfMapTest {
    public static void main(String[] args) {
        atMost128Keys();
        atMost128KeysOfEachMachine();
        keysOf1To32Bytes();
        keysOf0And33Bytes();
        valuesOf0To100Bytes();
        valuesOf101Bytes();
        aBrokenSixteenCountsWhole();
        theBytesOfBothCountTogether();
        atMost700Units();
        swapUpTo700Units();
        keysAndUnitsBothFull();
        unitsComeAndGoWithTheirKeys();
        theFirstByteThatDiffersOrders();
        bytesAreOrderedFrom0To255();
        theBeginningOfAnotherComesFirst();
        atFirstThereAreNone();
        Probe.end();
    }

    private static String bytes(int n) {
        return Probe.many('b', n);
    }

    /** "A MAP of at most 128 KEYS": the 128th is put, the 129th is not, and what there was stays. */
    private static void atMost128Keys() {
        Desk d = Desk.withKeys(127);
        d.put("\u007f", "", "\0");
        d.counts(128, 128);
        for (String key : new String[] {"\u0080", "\0\0", "\5\5", bytes(32)}) {
            d.put(key, "", "\2");
            d.counts(128, 128);
            d.get(key, "\0");
        }
        Probe.due("keys not below 0", Probe.count(d.x, 0, "\0", "\u00ff"), 2);
        Probe.due("are", Probe.result(d.x), "\u0080\0");
        d.keyIs(0, "\0", "");
        d.keyIs(127, "\u007f", "");
        d.remove("\5", "\1");
        d.put("\u0080", "v", "\0");
        d.put("\5", "", "\2");
        d.counts(128, 128);
        d.keyIs(127, "\u0080", "v");
    }

    /** "MACHINES 0 and 1, each with .. a MAP": the other one's keys are not counted. */
    private static void atMost128KeysOfEachMachine() {
        Desk d = Desk.withKeys(128);
        d.x.make(0, 1);
        d.x.clear(1);
        d.x.open(1, 500);
        Probe.put(d.x, 1, 501, 500, 1, "k", "v");
        Probe.due("a key of the other machine", Probe.result(d.x), "\0");
        Probe.due("its keys", d.x.state(1, 1), 1);
        d.put("\u0080", "", "\2");
        d.counts(128, 128);
    }

    /** "KEYS of 1 to 32 bytes": the smallest and the greatest, in each place where a key is told. */
    private static void keysOf1To32Bytes() {
        for (int size : new int[] {1, 2, 31, 32}) {
            Desk d = new Desk();
            String key = bytes(size);
            d.swap(key, "", "", "\3");
            d.put(key, "v", "\0");
            d.swap(key, "v", "w", "\1");
            d.get(key, "\1w");
            d.next(key, "\1" + (char) size + key + "w");
            d.count(key, "c", 1);
            d.count("a", key, 0);
            d.count(key, key, 0);
            d.keyIs(0, key, "w");
            d.remove(key, "\1w");
            d.counts(0, 0);
        }
    }

    private static void history(Keeper x) {
        x.open(0, 10);
        Probe.put(x, 0, 11, 10, 1, bytes(32), "value");
        Probe.get(x, 0, bytes(32));
    }

    private static void runRefused(String tape, int shape) {
        Probe.refusedAndTapeEmpty("run with shape " + shape + " and a tape of " + tape.length(), Probe.ARGUMENT, x -> {
            history(x);
            Probe.feedText(x, tape);
        }, x -> x.run(0, 12, 10, 2, shape));
    }

    private static void readRefused(String tape, int shape) {
        Probe.refusedAndTapeEmpty("read with shape " + shape + " and a tape of " + tape.length(), Probe.ARGUMENT, x -> {
            history(x);
            Probe.feedText(x, tape);
        }, x -> x.read(0, shape));
    }

    /** "KEYS of 1 to 32 bytes": the first beyond, in each place where a key is told. */
    private static void keysOf0And33Bytes() {
        for (int operation = Probe.PUT; operation <= Probe.REMOVE; operation++) {
            runRefused("", operation);
            runRefused(bytes(33), operation + 8 * 33);
        }
        runRefused("v", Probe.PUT);
        runRefused(bytes(34), Probe.PUT + 8 * 33);
        runRefused("vw", Probe.SWAP + 512);
        runRefused(bytes(35), Probe.SWAP + 8 * 33 + 512);
        for (int reading = Probe.GET; reading <= Probe.NEXT; reading++) {
            readRefused("", reading);
            readRefused("k", reading);
            readRefused(bytes(33), reading + 8 * 33);
            readRefused(bytes(34), reading + 8 * 33);
        }
        readRefused(bytes(32), Probe.COUNT + 8 * 32);
        readRefused(bytes(65), Probe.COUNT + 8 * 32);
        readRefused(bytes(1), Probe.COUNT + 8);
        readRefused(bytes(34), Probe.COUNT + 8);
    }

    /** "VALUES of 0 to 100 bytes": the smallest and the greatest, as a new, a former and an expected one. */
    private static void valuesOf0To100Bytes() {
        for (int size : new int[] {0, 1, 99, 100}) {
            Desk d = new Desk();
            String value = bytes(size);
            d.put("k", value, "\0");
            d.get("k", "\1" + value);
            d.swap("k", value, value, "\1");
            d.keyIs(0, "k", value);
            d.remove("k", "\1" + value);
        }
        for (int size : new int[] {99, 100}) {
            Desk d = new Desk();
            d.put(bytes(32), bytes(size), "\0");
            d.swap(bytes(32), bytes(size), "", "\1");
            d.swap(bytes(32), "", bytes(size), "\1");
            d.keyIs(0, bytes(32), bytes(size));
        }
    }

    /** "VALUES of 0 to 100 bytes": the first beyond, beside a key of 1 and of 32 bytes. */
    private static void valuesOf101Bytes() {
        for (int key : new int[] {1, 32}) {
            runRefused(bytes(key + 101), Probe.PUT + 8 * key);
            runRefused(bytes(key + 101), Probe.SWAP + 8 * key);
            runRefused(bytes(key + 5 + 101), Probe.SWAP + 8 * key + 512 * 5);
            runRefused(bytes(key + 100 + 101), Probe.SWAP + 8 * key + 512 * 100);
            runRefused(bytes(key + 101), Probe.SWAP + 8 * key + 512 * 101);
            runRefused(bytes(key + 101 + 100), Probe.SWAP + 8 * key + 512 * 101);
        }
    }

    /** "As many for each as there are sixteens in the bytes of both, a broken one counting whole". */
    private static void aBrokenSixteenCountsWhole() {
        int[][] sizesAndUnits = {{1, 0, 1}, {1, 14, 1}, {1, 15, 1}, {1, 16, 2}, {1, 31, 2}, {1, 32, 3}, {1, 95, 6},
            {1, 96, 7}, {1, 100, 7}, {16, 0, 1}, {17, 0, 2}, {32, 0, 2}, {32, 1, 3}, {32, 16, 3}, {32, 17, 4},
            {32, 96, 8}, {32, 97, 9}, {32, 100, 9}};
        for (int[] row : sizesAndUnits) {
            Desk d = new Desk();
            d.put(bytes(row[0]), bytes(row[1]), "\0");
            d.counts(1, row[2]);
            d.put("c", bytes(15), "\0");
            d.counts(2, row[2] + 1);
            d.remove("c", "\1" + bytes(15));
            d.counts(1, row[2]);
        }
    }

    /** "In the bytes of both": a key and its value share a sixteen; two keys never do. */
    private static void theBytesOfBothCountTogether() {
        Desk d = new Desk();
        d.put(bytes(8), bytes(8), "\0");
        d.counts(1, 1);
        d.put(bytes(9), bytes(8), "\0");
        d.counts(2, 3);
        d.put("c", "", "\0");
        d.put("d", "", "\0");
        d.counts(4, 5);
    }

    /** "Which take at most 700 UNITS": 700 are taken by a new key and by a longer value; 701 are not. */
    private static void atMost700Units() {
        Desk d = Desk.with700Units();
        d.put("y", "", "\2");
        d.counts(78, 700);
        d.put("x", bytes(95), "\1" + bytes(100));
        d.counts(78, 699);
        d.put("y", bytes(16), "\2");
        d.get("y", "\0");
        d.counts(78, 699);
        d.put("y", bytes(15), "\0");
        d.counts(79, 700);
        d.put("y", bytes(16), "\2");
        d.get("y", "\1" + bytes(15));
        d.counts(79, 700);
        d.remove("y", "\1" + bytes(15));
        d.put("x", bytes(100), "\1" + bytes(95));
        d.counts(78, 700);
    }

    /** "(2 as for PUT)": SWAP takes 700 units, and no 701st. */
    private static void swapUpTo700Units() {
        Desk d = Desk.with700Units();
        d.swap("x", bytes(100), bytes(95), "\1");
        d.counts(78, 699);
        d.swap("x", bytes(95), bytes(100), "\1");
        d.counts(78, 700);
        d.swap("x", bytes(100), bytes(95), "\1");
        d.put("y", bytes(15), "\0");
        d.counts(79, 700);
        d.swap("y", bytes(15), bytes(16), "\2");
        d.get("y", "\1" + bytes(15));
        d.counts(79, 700);
        d.swap("y", bytes(15), Probe.many('c', 15), "\1");
        d.get("y", "\1" + Probe.many('c', 15));
    }

    /** "When keys or units would be too many": either alone is enough, and both at once. */
    private static void keysAndUnitsBothFull() {
        Desk d = new Desk(Keeper.beyondTheBoundCalls());
        for (int i = 0; i < 128; i++) {
            d.put("" + (char) i, bytes(i < 60 ? 95 : 79), "\0");
        }
        d.counts(128, 700);
        d.put("\u00ff", "", "\2");
        d.put("\u007f", bytes(95), "\2");
        d.put("\u007f", bytes(79), "\1" + bytes(79));
        d.put("\u007f", bytes(63), "\1" + bytes(79));
        d.counts(128, 699);
        d.put("\u00ff", "", "\2");
        d.remove("\u007f", "\1" + bytes(63));
        d.counts(127, 695);
        d.put("\u00ff", bytes(80), "\2");
        d.counts(127, 695);
        d.put("\u00ff", bytes(79), "\0");
        d.counts(128, 700);
    }

    /** Units are those of the keys there are, whatever was done to them. */
    private static void unitsComeAndGoWithTheirKeys() {
        Desk d = new Desk();
        d.put("k", bytes(16), "\0");
        d.put("k", bytes(15), "\1" + bytes(16));
        d.counts(1, 1);
        d.swap("k", bytes(15), bytes(47), "\1");
        d.counts(1, 3);
        d.swap("k", bytes(15), bytes(100), "\0" + bytes(47));
        d.counts(1, 3);
        d.remove("j", "\0");
        d.counts(1, 3);
        d.remove("k", "\1" + bytes(47));
        d.counts(0, 0);
        d.remove("k", "\0");
        d.counts(0, 0);
    }

    private static void isOrder(String... order) {
        for (int turn = 0; turn < 2; turn++) {
            Desk d = new Desk();
            for (int i = 0; i < order.length; i++) {
                d.put(order[turn == 0 ? i : order.length - 1 - i], "", "\0");
            }
            for (int k = 0; k < order.length; k++) {
                d.keyIs(k, order[k], "");
                d.count(order[0], order[k], k);
            }
        }
    }

    /** "Keys are ordered by their first bytes that differ": no later byte and no size counts against it. */
    private static void theFirstByteThatDiffersOrders() {
        isOrder("a", "b");
        isOrder("az", "ba");
        isOrder("azz", "b");
        isOrder("a", "baa");
        isOrder(bytes(31) + "a", bytes(31) + "b");
        isOrder(bytes(15) + "a" + bytes(16), bytes(16));
        isOrder("ab\u00ff", "ac\0", "ad");
    }

    /** "(0 .. 255)": 127 is below 128, and 255 is the last one. */
    private static void bytesAreOrderedFrom0To255() {
        isOrder("\0", "\1", "\u007e", "\u007f", "\u0080", "\u0081", "\u00fe", "\u00ff");
        isOrder("k\0", "k\u007f", "k\u0080", "k\u00ff");
    }

    /** "One that is the beginning of another comes first". */
    private static void theBeginningOfAnotherComesFirst() {
        isOrder("k", "k\0", "k\0\0", "k\1", "kk");
        isOrder(bytes(31), bytes(31) + "\0", bytes(32));
        isOrder("\0", "\0\0");
        isOrder("\u00ff", "\u00ff\0", "\u00ff\u00ff");
    }

    /** "At first there are none of these." */
    private static void atFirstThereAreNone() {
        Keeper x = new Keeper();
        for (int machine = 0; machine < 2; machine++) {
            int m = machine;
            Probe.due("sessions", x.state(m, 0), 0);
            Probe.due("keys", x.state(m, 1), 0);
            Probe.due("units", x.state(m, 2), 0);
            Probe.refused("the first session", Probe.INDEX, x, y -> y.session(m, 0, 0));
            Probe.refused("the first key", Probe.INDEX, x, y -> y.key(m, 0, 0));
            Probe.due("NEXT of the least key", Probe.next(x, m, "\0"), 1);
            Probe.due("is none", Probe.result(x), "\0");
            Probe.due("COUNT of all", Probe.count(x, m, "\0", Probe.many('\u00ff', 32)), 2);
            Probe.due("is none", Probe.result(x), "\0\0");
        }
    }
}

/** Promise 4: run, its operations and their limits. */
public final class RunOperationTest {
    private final TwinKeepers x = new TwinKeepers();
    private int place = 1;

    private RunOperationTest() {
        x.open(0, place);
    }

    public static void main(String[] args) {
        puttingAndRemoving();
        swapping();
        sizesAtTheEdges();
        keysAreOrdered();
        oneHundredAndTwentyEightKeys();
        unitsOfAKey();
        sevenHundredUnits();
        keysAndUnitsAtOnce();
        Probe.end();
    }

    private void put(String key, String value, String answer) {
        place++;
        Probe.due("put " + key, Probe.put(x, 0, place, 1, place, key, value), 0);
        Probe.due("answer of put " + key, Probe.result(x), answer);
    }

    private void swap(String key, String expected, String value, String answer) {
        place++;
        Probe.due("swap " + key, Probe.swap(x, 0, place, 1, place, key, expected, value), 0);
        Probe.due("answer of swap " + key, Probe.result(x), answer);
    }

    private void remove(String key, String answer) {
        place++;
        Probe.due("remove " + key, Probe.remove(x, 0, place, 1, place, key), 0);
        Probe.due("answer of remove " + key, Probe.result(x), answer);
    }

    private void holds(String key, String answer) {
        Probe.get(x, 0, key);
        Probe.due("the value of " + key, Probe.result(x), answer);
    }

    private void counts(int keys, int units) {
        Probe.due("keys", x.state(0, 1), keys);
        Probe.due("units", x.state(0, 2), units);
    }

    private static void puttingAndRemoving() {
        RunOperationTest t = new RunOperationTest();
        t.put("key", "one", "\0");
        t.put("key", "two!", "\1one");
        t.put("key", "", "\1two!");
        t.put("key", "three", "\1");
        t.put("ke", "other", "\0");
        t.holds("key", "\1three");
        t.remove("ke", "\1other");
        t.remove("ke", "\0");
        t.remove("k", "\0");
        t.remove("keys", "\0");
        t.counts(1, 1);
        t.remove("key", "\1three");
        t.counts(0, 0);
        t.put("key", "again", "\0");
    }

    private static void swapping() {
        RunOperationTest t = new RunOperationTest();
        t.swap("key", "", "new", "\3");
        t.swap("key", "old", "new", "\3");
        t.counts(0, 0);
        t.put("key", "old", "\0");
        t.swap("key", "ole", "new", "\0old");
        t.swap("key", "ol", "new", "\0old");
        t.swap("key", "old!", "new", "\0old");
        t.swap("key", "", "new", "\0old");
        t.holds("key", "\1old");
        t.swap("key", "old", "newer", "\1");
        t.holds("key", "\1newer");
        t.swap("key", "newer", "", "\1");
        t.holds("key", "\1");
        t.swap("key", "", "full", "\1");
        t.swap("key", "full", "full", "\1");
        t.holds("key", "\1full");
        t.swap("kex", "full", "x", "\3");
        t.counts(1, 1);
    }

    private static void sizesAtTheEdges() {
        RunOperationTest t = new RunOperationTest();
        String longKey = Probe.many('\u00ff', 32);
        String longValue = Probe.many('\u0080', 100);
        String otherValue = Probe.many('\u0081', 100);
        t.put("\0", "", "\0");
        t.put(longKey, longValue, "\0");
        t.put(longKey, longValue, "\1" + longValue);
        t.swap(longKey, longValue, otherValue, "\1");
        t.swap(longKey, longValue, longValue, "\0" + otherValue);
        t.put("\0", longValue, "\1");
        t.counts(2, 9 + 7);
        t.remove(longKey, "\1" + otherValue);
        t.remove("\0", "\1" + longValue);
        t.counts(0, 0);
    }

    private static void keysAreOrdered() {
        RunOperationTest t = new RunOperationTest();
        String[] order = {"\0", "\0\0", "\0\1", "\1", "a", "aa", "aa\0", "aaa", "ab", "b", "\u007f", "\u0080",
            "\u0080\0", "\u00ff", "\u00ff\u00ff"};
        int[] mixed = {7, 14, 0, 11, 3, 9, 1, 13, 5, 10, 2, 12, 6, 8, 4};
        for (int i : mixed) {
            t.put(order[i], "v" + i, "\0");
        }
        for (int k = 0; k < order.length; k++) {
            Probe.due("bytes of key " + k, t.x.key(0, k, 0), order[k].length());
            Probe.due("key " + k, Probe.result(t.x), order[k]);
            t.x.key(0, k, 1);
            Probe.due("value " + k, Probe.result(t.x), "v" + k);
        }
    }

    private static void oneHundredAndTwentyEightKeys() {
        RunOperationTest t = new RunOperationTest();
        for (int i = 127; i >= 0; i--) {
            t.put("" + (char) (2 * i), "v", "\0");
        }
        t.counts(128, 128);
        String map = mapOf(t.x);
        t.put("\1", "", "\2");
        t.put("\u00ff", "", "\2");
        t.swap("\1", "", "", "\3");
        t.put("\2", "v", "\1v");
        t.swap("\2", "v", "v", "\1");
        t.counts(128, 128);
        Probe.due("the map", mapOf(t.x), map);
        t.remove("\u0010", "\1v");
        t.put("\1", "", "\0");
        t.put("\3", "", "\2");
        t.counts(128, 128);
    }

    private static String mapOf(TwinKeepers x) {
        StringBuilder told = new StringBuilder();
        for (int k = 0; k < x.state(0, 1); k++) {
            x.key(0, k, 0);
            told.append(Probe.result(x)).append('=');
            x.key(0, k, 1);
            told.append(Probe.result(x)).append(' ');
        }
        return told.toString();
    }

    private static void unitsOfAKey() {
        for (int keySize : new int[] {1, 15, 16, 17, 32}) {
            for (int valueSize : new int[] {0, 1, 14, 15, 16, 17, 31, 32, 83, 84, 95, 96, 100}) {
                RunOperationTest t = new RunOperationTest();
                int units = (int) Math.ceil((keySize + valueSize) / 16.0);
                t.put(Probe.many('k', keySize), Probe.many('v', valueSize), "\0");
                t.counts(1, units);
                t.put("l", Probe.many('v', 16), "\0");
                t.counts(2, units + 2);
                t.put(Probe.many('k', keySize), "", "\1" + Probe.many('v', valueSize));
                t.counts(2, (int) Math.ceil(keySize / 16.0) + 2);
            }
        }
    }

    /** 77 keys of 9 units and one of 7: 700. The document binds 512 calls alone, which can't bring so many. */
    private static RunOperationTest withSevenHundredUnits() {
        RunOperationTest t = new RunOperationTest();
        for (int i = 0; i < 77; i++) {
            t.put((char) i + Probe.many('k', 31), Probe.many('v', 100), "\0");
        }
        t.put("x" + Probe.many('k', 11), Probe.many('v', 100), "\0");
        t.counts(78, 700);
        return t;
    }

    private static void sevenHundredUnits() {
        RunOperationTest t = withSevenHundredUnits();
        String last = "x" + Probe.many('k', 11);
        String full = Probe.many('v', 100);
        t.put("y", "", "\2");
        t.counts(78, 700);
        t.put(last, Probe.many('w', 100), "\1" + full);
        t.swap(last, "", "", "\0" + Probe.many('w', 100));
        t.swap(last, Probe.many('w', 100), Probe.many('v', 84), "\1");
        t.counts(78, 699);
        t.put("y", Probe.many('u', 15), "\0");
        t.counts(79, 700);
        t.put("y", Probe.many('t', 16), "\2");
        t.swap("y", Probe.many('u', 15), Probe.many('t', 16), "\2");
        t.swap("y", Probe.many('u', 14), Probe.many('t', 16), "\0" + Probe.many('u', 15));
        t.swap("z", "", Probe.many('t', 16), "\3");
        t.holds("y", "\1" + Probe.many('u', 15));
        t.remove(last, "\1" + Probe.many('v', 84));
        t.counts(78, 694);
        t.put("y", Probe.many('t', 100), "\1" + Probe.many('u', 15));
        t.counts(78, 700);
        t.put("z", "", "\2");
        t.remove("y", "\1" + Probe.many('t', 100));
        t.counts(77, 693);
        t.put("z", full, "\0");
        t.counts(78, 700);
    }

    private static void keysAndUnitsAtOnce() {
        RunOperationTest t = new RunOperationTest();
        String five = Probe.many('v', 79);
        String six = Probe.many('v', 95);
        for (int i = 0; i < 128; i++) {
            t.put("" + (char) i, i < 60 ? six : five, "\0");
        }
        t.counts(128, 700);
        t.put("\u00ff", "", "\2");
        t.put("\u007f", six, "\2");
        t.put("\u007f", five, "\1" + five);
        t.remove("\u007f", "\1" + five);
        t.put("\u00ff", six, "\2");
        t.counts(127, 695);
        t.put("\u00ff", five, "\0");
        t.counts(128, 700);
    }
}

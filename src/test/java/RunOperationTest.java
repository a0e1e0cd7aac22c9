/** Promise 4: run, its operations; EdgesOfMapTest has their limits. */
public final class RunOperationTest {
    public static void main(String[] args) {
        puttingAndRemoving();
        swapping();
        sizesAtTheEdges();
        keysAreOrdered();
        Probe.end();
    }

    private static void puttingAndRemoving() {
        Desk t = new Desk();
        t.put("key", "one", "\0");
        t.put("key", "two!", "\1one");
        t.put("key", "", "\1two!");
        t.put("key", "three", "\1");
        t.put("ke", "other", "\0");
        t.get("key", "\1three");
        t.remove("ke", "\1other");
        t.remove("ke", "\0");
        t.remove("k", "\0");
        t.remove("keys", "\0");
        t.counts(1, 1);
        t.remove("key", "\1three");
        t.counts(0, 0);
        t.put("key", "again", "\0");
    }

    private static void swapping() {
        Desk t = new Desk();
        t.swap("key", "", "new", "\3");
        t.swap("key", "old", "new", "\3");
        t.counts(0, 0);
        t.put("key", "old", "\0");
        t.swap("key", "ole", "new", "\0old");
        t.swap("key", "ol", "new", "\0old");
        t.swap("key", "old!", "new", "\0old");
        t.swap("key", "", "new", "\0old");
        t.get("key", "\1old");
        t.swap("key", "old", "newer", "\1");
        t.get("key", "\1newer");
        t.swap("key", "newer", "", "\1");
        t.get("key", "\1");
        t.swap("key", "", "full", "\1");
        t.swap("key", "full", "full", "\1");
        t.get("key", "\1full");
        t.swap("kex", "full", "x", "\3");
        t.counts(1, 1);
    }

    private static void sizesAtTheEdges() {
        String longKey = Probe.many('\u00ff', 32);
        String longValue = Probe.many('\u0080', 100);
        String otherValue = Probe.many('\u0081', 100);
        Desk t = new Desk();
        t.put("\0", "", "\0");
        t.put("\0", longValue, "\1");
        t.put(longKey, longValue, "\0");
        t.counts(2, 9 + 7);
        t.remove("\0", "\1" + longValue);
        t.remove(longKey, "\1" + longValue);
        t.counts(0, 0);
        Desk u = new Desk();
        u.put(longKey, longValue, "\0");
        u.swap(longKey, longValue, otherValue, "\1");
        u.swap(longKey, longValue, longValue, "\0" + otherValue);
        u.counts(1, 9);
    }

    private static void keysAreOrdered() {
        Desk t = new Desk();
        String[] order = {"\0", "\0\0", "\0\1", "\1", "a", "aa", "aa\0", "aaa", "ab", "b", "\u007f", "\u0080",
            "\u0080\0", "\u00ff", "\u00ff\u00ff"};
        int[] mixed = {7, 14, 0, 11, 3, 9, 1, 13, 5, 10, 2, 12, 6, 8, 4};
        for (int i : mixed) {
            t.put(order[i], "v" + i, "\0");
        }
        for (int k = 0; k < order.length; k++) {
            t.keyIs(k, order[k], "v" + k);
        }
    }
}

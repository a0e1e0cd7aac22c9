/** Promise 10: key. */
public final class KeyTest {
    public static void main(String[] args) {
        keysAndValues();
        edgesOfSizes();
        wrongOnes();
        onlyTheResultChanges();
        Probe.end();
    }

    private static void fill(Keeper x) {
        x.open(0, 1);
        Probe.put(x, 0, 2, 1, 1, "\u00ffz", "last");
        Probe.put(x, 0, 3, 1, 2, "a", "first");
        Probe.put(x, 0, 4, 1, 3, "\u0080", "");
        x.feed(1, 2);
    }

    private static void is(Keeper x, int machine, int k, int what, String want) {
        String call = "key(" + machine + ", " + k + ", " + what + ")";
        Probe.due(call, x.key(machine, k, what), want.length());
        Probe.due("result of " + call, Probe.result(x), want);
    }

    private static void keysAndValues() {
        Keeper x = new Keeper();
        fill(x);
        is(x, 0, 0, 0, "a");
        is(x, 0, 0, 1, "first");
        is(x, 0, 1, 0, "\u0080");
        is(x, 0, 1, 1, "");
        is(x, 0, 2, 0, "\u00ffz");
        is(x, 0, 2, 1, "last");
        x.make(0, 1);
        is(x, 1, 2, 1, "last");
    }

    private static void edgesOfSizes() {
        Keeper x = new Keeper();
        x.open(1, 1);
        for (int i = 0; i < 128; i++) {
            Probe.put(x, 1, 2 + i, 1, 1 + i, "" + (char) (255 - i), "" + (char) i);
        }
        is(x, 1, 0, 0, "\u0080");
        is(x, 1, 0, 1, "\u007f");
        is(x, 1, 127, 0, "\u00ff");
        is(x, 1, 127, 1, "\0");
        Probe.refused("key(1, 128, 0)", Probe.INDEX, x, y -> y.key(1, 128, 0));
        Keeper y = new Keeper();
        y.open(0, 1);
        Probe.put(y, 0, 2, 1, 1, Probe.many('k', 32), Probe.many('v', 100));
        is(y, 0, 0, 0, Probe.many('k', 32));
        is(y, 0, 0, 1, Probe.many('v', 100));
    }

    private static void refused(int machine, int k, int what) {
        Probe.refusedAndSame("key(" + machine + ", " + k + ", " + what + ")", Probe.INDEX, KeyTest::fill,
                x -> x.key(machine, k, what));
    }

    /** "IndexOutOfBoundsException, when there is no such machine, key, or what." */
    private static void wrongOnes() {
        for (int bad : new int[] {-1, 3, 128, Integer.MIN_VALUE, Integer.MAX_VALUE}) {
            refused(bad, 0, 0);
            refused(0, bad, 0);
            refused(0, 0, bad);
        }
        refused(2, 0, 0);
        refused(0, 0, 2);
        refused(1, 0, 0);
    }

    private static void onlyTheResultChanges() {
        Keeper x = new Keeper();
        fill(x);
        String row = Probe.rowOf(x, 0);
        x.key(0, 0, 1);
        x.key(0, 2, 0);
        Probe.due("place()", x.place(), 4);
        Probe.due("the tape", x.feed(1, 1), 3);
        Probe.due("the row", Probe.rowOf(x, 0), row);
        x.key(0, 0, 1);
        x.clear(0);
        Probe.due("the result, when the key is gone", Probe.result(x), "first");
    }
}

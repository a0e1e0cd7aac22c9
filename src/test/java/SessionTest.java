/** Promise 9: session. */
public final class SessionTest {
    public static void main(String[] args) {
        whatIsAsked();
        byTheirNumbers();
        wrongOnes();
        nothingChanges();
        Probe.end();
    }

    private static void fill(Keeper x) {
        x.open(1, 10);
        x.open(1, 20);
        Probe.put(x, 1, 21, 10, 7, "key", "value");
        Probe.put(x, 1, 22, 10, 8, "key", "other");
        Probe.put(x, 1, 23, 20, 0, "key", "other");
        Probe.put(x, 1, 24, 10, 8, "key", "other");
        x.feed(1, 2);
    }

    private static void whatIsAsked() {
        Keeper x = new Keeper();
        fill(x);
        int[][] want = {{10, 24, 8, 22, 6}, {20, 23, 0, 20, 0}};
        for (int k = 0; k < 2; k++) {
            for (int what = 0; what < 5; what++) {
                Probe.due("session(1, " + k + ", " + what + ")", x.session(1, k, what), want[k][what]);
            }
        }
        Probe.emptyTape(x);
        Probe.swap(x, 1, 25, 10, 9, "key", "x", Probe.many('v', 100));
        Probe.due("bytes of the answer", x.session(1, 0, 4), 6);
        Probe.put(x, 1, 26, 10, 10, "key", Probe.many('v', 100));
        Probe.remove(x, 1, 27, 10, 11, "key");
        Probe.due("bytes of a long answer", x.session(1, 0, 4), 101);
    }

    private static void byTheirNumbers() {
        Keeper x = new Keeper();
        for (int i = 1; i <= 16; i++) {
            x.open(0, 10 * i);
        }
        for (int i = 16; i >= 1; i--) {
            Probe.put(x, 0, 200 - i, 10 * i, 1, "k", "");
        }
        for (int k = 0; k < 16; k++) {
            Probe.due("number of " + k, x.session(0, k, 0), 10 * k + 10);
            Probe.due("USED of " + k, x.session(0, k, 1), 199 - k);
        }
    }

    private static void refused(int machine, int k, int what) {
        Probe.refusedAndSame("session(" + machine + ", " + k + ", " + what + ")", Probe.INDEX, SessionTest::fill,
                x -> x.session(machine, k, what));
    }

    /** "IndexOutOfBoundsException, when there is no such machine, session, or what." */
    private static void wrongOnes() {
        for (int bad : new int[] {-1, 2, 5, 16, Integer.MIN_VALUE, Integer.MAX_VALUE}) {
            refused(bad, 0, 0);
            refused(1, bad, 0);
        }
        for (int bad : new int[] {-1, 5, 6, Integer.MIN_VALUE, Integer.MAX_VALUE}) {
            refused(1, 0, bad);
        }
        refused(0, 0, 0);
    }

    private static void nothingChanges() {
        Keeper x = new Keeper();
        Keeper y = new Keeper();
        fill(x);
        fill(y);
        x.session(1, 1, 3);
        Probe.due("the picture", Probe.picture(x), Probe.picture(y));
    }
}

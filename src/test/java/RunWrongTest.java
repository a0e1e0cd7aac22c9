/** Promise 4: run, with arguments that are wrong. */
public final class RunWrongTest {
    public static void main(String[] args) {
        wrongMachines();
        wrongPlaces();
        wrongSerials();
        wrongShapes();
        wrongTapes();
        wrongEvenWithoutASession();
        theTapeIsEmptyInAnyCase();
        Probe.end();
    }

    private static void history(Keeper x) {
        x.open(0, 10);
        Probe.put(x, 0, 11, 10, 1, "k", "value");
        x.open(1, 3);
        Probe.next(x, 0, "a");
        Probe.feedText(x, "kvw");
    }

    private static void bare(Keeper x) {
        x.open(0, 10);
        Probe.put(x, 0, 11, 10, 1, "k", "value");
        Probe.get(x, 0, "k");
    }

    private static void refused(Class<? extends RuntimeException> want, int... a) {
        String what = "run(" + a[0] + ", " + a[1] + ", " + a[2] + ", " + a[3] + ", " + a[4] + ")";
        Probe.refusedAndTapeEmpty(what, want, RunWrongTest::history, x -> x.run(a[0], a[1], a[2], a[3], a[4]));
    }

    private static void refusedWithTape(String tape, int shape) {
        Probe.refusedAndTapeEmpty("shape " + shape + " with " + tape.length(), Probe.ARGUMENT, x -> {
            bare(x);
            Probe.feedText(x, tape);
        }, x -> x.run(0, 12, 10, 2, shape));
    }

    /** "IndexOutOfBoundsException, when there is no such machine". */
    private static void wrongMachines() {
        for (int machine : new int[] {-1, 2, Integer.MIN_VALUE, Integer.MAX_VALUE}) {
            refused(Probe.INDEX, machine, 12, 10, 2, 8);
            refused(Probe.INDEX, machine, 11, 10, 2, 8);
            refused(Probe.INDEX, machine, 12, 10, -1, 8);
            refused(Probe.INDEX, machine, 12, 10, 2, -8);
        }
    }

    /** "IllegalArgumentException, when place is as for open()". */
    private static void wrongPlaces() {
        for (int place : new int[] {0, -1, 1, 10, 11, 1000001, Integer.MIN_VALUE, Integer.MAX_VALUE}) {
            refused(Probe.ARGUMENT, 0, place, 10, 2, 8);
            refused(Probe.ARGUMENT, 0, place, 10, 1, 8);
            refused(Probe.ARGUMENT, 0, place, 99, 2, 8);
        }
        refused(Probe.ARGUMENT, 1, 3, 3, 1, 8);
        Keeper x = new Keeper();
        history(x);
        Probe.due("the last place", x.run(0, 1000000, 10, 2, 8), 0);
        Probe.due("its place", x.place(), 1000000);
    }

    /** "Serial below 0": 0 is right, see RunSessionTest. */
    private static void wrongSerials() {
        refused(Probe.ARGUMENT, 0, 12, 10, -1, 8);
        refused(Probe.ARGUMENT, 0, 12, 10, Integer.MIN_VALUE, 8);
        refused(Probe.ARGUMENT, 0, 12, 99, -1, 8);
    }

    /** "Or shape and tape are not so (operations 0 .. 2, sizes of keys and values as told)": the shape. */
    private static void wrongShapes() {
        int[] shapes = {-1, -8, Integer.MIN_VALUE, Integer.MIN_VALUE + 8, Integer.MAX_VALUE, 3 + 8, 4 + 8, 5 + 8,
            6 + 8, 7 + 8, 0, 1, 2, 8 * 33, 8 * 63, 1 + 8 * 33, 2 + 8 * 33, 8 + 512, 2 + 8 + 512, 8 + 512 * 101,
            1 + 8 + 512 * 101, 1 + 8 + 512 * 4, 8 * 4, 2 + 8, 2 + 16, 2 + 8 * 4, 1 + 8 + (1 << 30)};
        for (int shape : shapes) {
            refused(Probe.ARGUMENT, 0, 12, 10, 2, shape);
        }
    }

    /** ".. shape and tape are not so ..": the tape. */
    private static void wrongTapes() {
        refusedWithTape("", 8);
        refusedWithTape("", 0);
        refusedWithTape("", 1 + 8);
        refusedWithTape("", 2 + 8);
        refusedWithTape("", 2);
        refusedWithTape("k", 16);
        refusedWithTape("k", 1 + 8 + 512);
        refusedWithTape("kv", 2 + 8);
        refusedWithTape("k", 2 + 16);
        refusedWithTape(Probe.many('k', 102), 8);
        refusedWithTape(Probe.many('k', 133), 8 * 32);
        refusedWithTape(Probe.many('k', 300), 8 * 32);
        refusedWithTape(Probe.many('k', 33), 8 * 33);
        refusedWithTape(Probe.many('k', 33), 2 + 8 * 33);
        refusedWithTape(Probe.many('k', 133), 1 + 8 * 32);
        refusedWithTape(Probe.many('k', 233), 1 + 8 * 32 + 512 * 100);
        refusedWithTape(Probe.many('k', 134), 1 + 8 * 32 + 512 * 101);
        refusedWithTape(Probe.many('k', 131), 1 + 8 * 32 + 512 * 100);
    }

    private static void wrongEvenWithoutASession() {
        Keeper x = new Keeper();
        x.feed(1, 2);
        Probe.refused("REMOVE with a value", Probe.ARGUMENT, x, y -> y.run(0, 1, 1, 1, 2 + 8));
        Probe.due("no place is taken", x.state(0, 4), 0);
        Probe.due("place()", x.place(), 0);
        x.feed(1, 1);
        Probe.due("a right one", x.run(0, 1, 1, 1, 2 + 8), 2);
        Probe.due("its place is taken", x.state(0, 4), 1);
    }

    /** "The tape (which is empty then, in any case)". */
    private static void theTapeIsEmptyInAnyCase() {
        int[][] calls = {{0, 12, 10, 2, 8}, {0, 12, 10, 1, 8}, {0, 12, 10, 0, 8}, {0, 12, 99, 2, 8}};
        int[] want = {0, 1, 3, 2};
        for (int i = 0; i < calls.length; i++) {
            Keeper x = new Keeper();
            history(x);
            int[] a = calls[i];
            Probe.due("run " + want[i], x.run(a[0], a[1], a[2], a[3], a[4]), want[i]);
            Probe.due("the tape behind it", x.feed(0, 1), 1);
        }
    }
}

/**
 * A TwinKeepers whose calls are counted: what an object answers behind its 512th call is free, so a test that asks
 * for it without saying so is wrong.
 */
final class Keeper {
    private static final int BOUND_CALLS = 512;

    private final TwinKeepers real = new TwinKeepers();
    private final boolean bound;
    private int calls = 0;

    Keeper() {
        this(true);
    }

    private Keeper(boolean bound) {
        this.bound = bound;
    }

    /** For the limit of 700 units alone, which 512 calls can't bring about: a unit takes two of them. */
    static Keeper beyondTheBoundCalls() {
        return new Keeper(false);
    }

    private TwinKeepers counted() {
        calls++;
        if (bound && calls == BOUND_CALLS + 1) {
            Probe.due("a test's object", "has a 513th call", "has 512 at most");
        }
        return real;
    }

    int feed(long eight, int n) {
        return counted().feed(eight, n);
    }

    int open(int machine, int place) {
        return counted().open(machine, place);
    }

    int run(int machine, int place, int session, int serial, int shape) {
        return counted().run(machine, place, session, serial, shape);
    }

    int read(int machine, int shape) {
        return counted().read(machine, shape);
    }

    int row(int machine) {
        return counted().row(machine);
    }

    boolean make(int from, int to) {
        return counted().make(from, to);
    }

    int clear(int machine) {
        return counted().clear(machine);
    }

    int session(int machine, int k, int what) {
        return counted().session(machine, k, what);
    }

    int key(int machine, int k, int what) {
        return counted().key(machine, k, what);
    }

    int state(int machine, int what) {
        return counted().state(machine, what);
    }

    int place() {
        return counted().place();
    }

    int byteAt(int i) {
        return counted().byteAt(i);
    }
}

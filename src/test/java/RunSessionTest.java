/** Promise 4: run, which of 0 .. 3 it answers and what that leaves. */
public final class RunSessionTest {
    public static void main(String[] args) {
        doneOnceHoweverOftenItComes();
        theSerialOfANewSession();
        belowTheSerial();
        noSuchSession();
        serialsMayLeap();
        theAnswerThatIsTwoCountsAsDone();
        sessionsAreApart();
        Probe.end();
    }

    private static void checkSession(Keeper x, int k, int... want) {
        for (int what = 0; what < want.length; what++) {
            Probe.due("session(0, " + k + ", " + what + ")", x.session(0, k, what), want[what]);
        }
    }

    private static void doneOnceHoweverOftenItComes() {
        Keeper x = new Keeper();
        x.open(0, 1);
        Probe.due("put", Probe.put(x, 0, 2, 1, 1, "k", "one"), 0);
        Probe.due("put", Probe.put(x, 0, 3, 1, 2, "k", "two"), 0);
        Probe.due("its answer", Probe.result(x), "\1one");
        checkSession(x, 0, 1, 3, 2, 3, 4);
        Probe.due("it again, told as another", Probe.remove(x, 0, 9, 1, 2, "k"), 1);
        Probe.due("its answer again", Probe.result(x), "\1one");
        Probe.due("its place again", x.place(), 3);
        checkSession(x, 0, 1, 9, 2, 3, 4);
        Probe.due("the greatest place", x.state(0, 4), 9);
        Probe.get(x, 0, "k");
        Probe.due("the value", Probe.result(x), "\1two");
    }

    private static void theSerialOfANewSession() {
        Keeper x = new Keeper();
        x.open(0, 4);
        x.row(0);
        Probe.due("serial 0", Probe.put(x, 0, 8, 4, 0, "k", "v"), 1);
        Probe.due("the empty answer", Probe.result(x), "");
        Probe.due("the place of OPEN", x.place(), 4);
        Probe.due("no key", x.state(0, 1), 0);
        checkSession(x, 0, 4, 8, 0, 4, 0);
    }

    private static void belowTheSerial() {
        Keeper x = new Keeper();
        x.open(0, 1);
        Probe.put(x, 0, 2, 1, 5, "k", "v");
        Probe.get(x, 0, "k");
        for (int serial = 4; serial >= 0; serial--) {
            int place = 7 - serial;
            Probe.due("serial " + serial, Probe.remove(x, 0, place, 1, serial, "k"), 3);
            Probe.due("no result", Probe.result(x), "");
            Probe.due("the place told", x.place(), place);
            checkSession(x, 0, 1, place, 5, 2, 1);
        }
        Probe.due("the key is there", x.state(0, 1), 1);
    }

    private static void noSuchSession() {
        for (int session : new int[] {0, 2, 3, -1, Integer.MIN_VALUE, Integer.MAX_VALUE}) {
            Keeper x = new Keeper();
            x.open(0, 1);
            x.open(1, 2);
            x.row(0);
            String before = Probe.rowOf(x, 0);
            Probe.due("run in " + session, Probe.put(x, 0, 5, session, 1, "k", "v"), 2);
            Probe.due("no result", Probe.result(x), "");
            Probe.due("the place told", x.place(), 5);
            Probe.due("the greatest place", x.state(0, 4), 5);
            Probe.due("the row", Probe.rowOf(x, 0), before);
            Probe.due("the tape is empty", x.feed(0, 1), 1);
            Probe.refused("the place again", Probe.ARGUMENT, x, y -> y.open(0, 5));
        }
    }

    private static void serialsMayLeap() {
        Keeper x = new Keeper();
        x.open(0, 1);
        Probe.due("serial 9", Probe.put(x, 0, 2, 1, 9, "k", "v"), 0);
        Probe.due("the greatest serial", Probe.put(x, 0, 3, 1, Integer.MAX_VALUE, "k", "w"), 0);
        checkSession(x, 0, 1, 3, Integer.MAX_VALUE, 3, 2);
        Probe.due("it again", Probe.put(x, 0, 4, 1, Integer.MAX_VALUE, "k", "w"), 1);
        Probe.due("serial 10", Probe.put(x, 0, 5, 1, 10, "k", "w"), 3);
    }

    private static void theAnswerThatIsTwoCountsAsDone() {
        Keeper x = new Keeper();
        x.open(0, 1);
        for (int i = 0; i < 128; i++) {
            Probe.put(x, 0, 2 + i, 1, 1 + i, "" + (char) i, "");
        }
        Probe.due("one too many", Probe.put(x, 0, 200, 1, 200, "zz", ""), 0);
        Probe.due("its answer", Probe.result(x), "\2");
        checkSession(x, 0, 1, 200, 200, 200, 1);
        Probe.remove(x, 0, 201, 1, 201, "\5");
        Probe.due("below", Probe.put(x, 0, 202, 1, 200, "zz", ""), 3);
        Probe.due("with a new serial", Probe.put(x, 0, 203, 1, 202, "zz", ""), 0);
        Probe.due("its answer", Probe.result(x), "\0");
    }

    private static void sessionsAreApart() {
        Keeper x = new Keeper();
        x.open(0, 1);
        x.open(0, 2);
        Probe.due("in 1", Probe.put(x, 0, 3, 1, 1, "k", "of one"), 0);
        Probe.due("in 2", Probe.put(x, 0, 4, 2, 1, "k", "of two"), 0);
        Probe.due("its answer", Probe.result(x), "\1of one");
        Probe.due("again in 1", Probe.put(x, 0, 5, 1, 1, "k", "x"), 1);
        Probe.due("its answer", Probe.result(x), "\0");
        Probe.due("its place", x.place(), 3);
        Probe.due("again in 2", Probe.put(x, 0, 6, 2, 1, "k", "x"), 1);
        Probe.due("its answer", Probe.result(x), "\1of one");
        Probe.due("its place", x.place(), 4);
        checkSession(x, 0, 1, 5, 1, 3, 1);
        checkSession(x, 1, 2, 6, 1, 4, 7);
    }
}

/** Promise 8: clear. */
public final class ClearTest {
    public static void main(String[] args) {
        asAtFirstButForThePlaces();
        howManyKeys();
        tapeResultAndPlaceStay();
        theOtherMachineStays();
        wrongMachines();
        Probe.end();
    }

    private static void fill(Keeper x, int machine) {
        x.open(machine, 1);
        Probe.put(x, machine, 2, 1, 1, "a", "one");
        Probe.put(x, machine, 3, 1, 2, "b", "two");
        x.open(machine, 9);
    }

    /** "A machine is as at first, but for the places before". */
    private static void asAtFirstButForThePlaces() {
        for (int machine = 0; machine < 2; machine++) {
            int m = machine;
            Keeper x = new Keeper();
            fill(x, m);
            Probe.due("clear", x.clear(m), 2);
            int[] want = {0, 0, 0, 8, 9};
            for (int what = 0; what < want.length; what++) {
                Probe.due("state " + what, x.state(m, what), want[what]);
            }
            Probe.due("the row", Probe.rowOf(x, m), Probe.many('\0', 8));
            Probe.refused("open at a place before", Probe.ARGUMENT, x, y -> y.open(m, 9));
            Probe.due("run in a session that is gone", Probe.put(x, m, 10, 1, 3, "a", ""), 2);
            Probe.due("open", x.open(m, 11), 1);
            Probe.put(x, m, 12, 11, 1, "a", "new");
            Probe.due("a key that is new again", Probe.result(x), "\0");
            Probe.due("units", x.state(m, 2), 1);
        }
    }

    /** "How many keys it had": none, and 128. */
    private static void howManyKeys() {
        Keeper x = new Keeper();
        Probe.due("clear of a new one", x.clear(0), 0);
        x.open(0, 1);
        Probe.due("clear without keys", x.clear(0), 0);
        Probe.due("sessions", x.state(0, 0), 0);
        x.open(0, 2);
        for (int i = 0; i < 128; i++) {
            Probe.put(x, 0, 3 + i, 2, 1 + i, "" + (char) i, "");
        }
        Probe.due("clear of 128", x.clear(0), 128);
        Probe.due("clear again", x.clear(0), 0);
    }

    private static void tapeResultAndPlaceStay() {
        Keeper x = new Keeper();
        fill(x, 0);
        Probe.get(x, 0, "b");
        x.feed(1, 4);
        x.clear(0);
        Probe.due("the result", Probe.result(x), "\1two");
        Probe.due("place()", x.place(), 9);
        Probe.due("the tape", x.feed(1, 1), 5);
    }

    private static void theOtherMachineStays() {
        Keeper x = new Keeper();
        fill(x, 0);
        fill(x, 1);
        String row = Probe.rowOf(x, 1);
        x.clear(0);
        Probe.due("the other's row", Probe.rowOf(x, 1), row);
    }

    /** "As for row()." */
    private static void wrongMachines() {
        for (int machine : new int[] {-1, 2, Integer.MIN_VALUE, Integer.MAX_VALUE}) {
            Probe.refusedAndSame("clear(" + machine + ")", Probe.INDEX, x -> {
                fill(x, 0);
                fill(x, 1);
                x.feed(1, 3);
            }, x -> x.clear(machine));
        }
    }
}

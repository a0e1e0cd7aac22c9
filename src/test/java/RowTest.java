/** Promise 6: row; EdgesOfRowTest has the boundaries of its parts. */
public final class RowTest {
    public static void main(String[] args) {
        sessionsAndKeys();
        greatNumbers();
        theResultIsACopy();
        wrongMachines();
        tapeAndPlaceStay();
        Probe.end();
    }

    private static void rowIs(Keeper x, int machine, String want) {
        Probe.due("row(" + machine + ")", x.row(machine), want.length());
        Probe.due("the row", Probe.result(x), want);
        Probe.due("state(" + machine + ", 3)", x.state(machine, 3), want.length());
    }

    private static void sessionsAndKeys() {
        Keeper x = new Keeper();
        rowIs(x, 0, Probe.number(0, 4) + Probe.number(0, 4));
        x.open(0, 3);
        x.open(0, 5);
        rowIs(x, 0, Probe.number(2, 4) + Probe.sessionRow(3, 3, 0, 3, "") + Probe.sessionRow(5, 5, 0, 5, "")
                + Probe.number(0, 4));
        Probe.put(x, 0, 6, 5, 7, "kk", "one");
        Probe.put(x, 0, 8, 3, 2, "kk", "two");
        Probe.put(x, 0, 9, 5, 7, "kk", "two");
        Probe.put(x, 0, 10, 5, 9, "a", "");
        rowIs(x, 0, Probe.number(2, 4) + Probe.sessionRow(3, 8, 2, 8, "\1one") + Probe.sessionRow(5, 10, 9, 10, "\0")
                + Probe.number(2, 4) + Probe.keyRow("a", "") + Probe.keyRow("kk", "two"));
        rowIs(x, 1, Probe.number(0, 4) + Probe.number(0, 4));
    }

    private static void greatNumbers() {
        Keeper x = new Keeper();
        x.open(1, 0x01234);
        x.open(1, 0xabcde);
        String full = Probe.many('\u00fe', 100);
        Probe.put(x, 1, 0xabcdf, 0xabcde, 1, Probe.many('\u00ff', 32), full);
        Probe.put(x, 1, 0xabce0, 0xabcde, 0x7fedcba9, Probe.many('\u00ff', 32), "");
        rowIs(x, 1, Probe.number(2, 4) + Probe.sessionRow(0x01234, 0x01234, 0, 0x01234, "")
                + Probe.sessionRow(0xabcde, 0xabce0, 0x7fedcba9, 0xabce0, "\1" + full)
                + Probe.number(1, 4) + Probe.keyRow(Probe.many('\u00ff', 32), ""));
    }

    private static void theResultIsACopy() {
        Keeper x = new Keeper();
        x.open(0, 1);
        String before = Probe.rowOf(x, 0);
        x.open(0, 2);
        x.clear(0);
        x.open(0, 3);
        Probe.due("the result behind other calls", Probe.result(x), before);
    }

    /** "IndexOutOfBoundsException, when there is no such machine." */
    private static void wrongMachines() {
        for (int machine : new int[] {-1, 2, Integer.MIN_VALUE, Integer.MAX_VALUE}) {
            Probe.refusedAndSame("row(" + machine + ")", Probe.INDEX, x -> {
                x.open(0, 1);
                Probe.put(x, 0, 2, 1, 1, "k", "v");
                Probe.get(x, 0, "k");
                x.feed(1, 2);
            }, x -> x.row(machine));
        }
    }

    private static void tapeAndPlaceStay() {
        Keeper x = new Keeper();
        x.open(0, 9);
        x.feed(1, 5);
        x.row(0);
        x.row(1);
        Probe.due("the tape", x.feed(1, 1), 6);
        Probe.due("place()", x.place(), 9);
    }
}

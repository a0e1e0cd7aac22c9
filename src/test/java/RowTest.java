/** Promise 6: row. */
public final class RowTest {
    public static void main(String[] args) {
        sessionsAndKeys();
        greatNumbers();
        theResultIsACopy();
        theGreatestRow();
        wrongMachines();
        tapeAndPlaceStay();
        Probe.end();
    }

    private static String session(int number, int used, int serial, int place, String answer) {
        return Probe.number(number, 4) + Probe.number(used, 4) + Probe.number(serial, 4) + Probe.number(place, 4)
                + Probe.number(answer.length(), 2) + answer;
    }

    private static String key(String key, String value) {
        return Probe.number(key.length(), 1) + Probe.number(value.length(), 2) + key + value;
    }

    private static void rowIs(TwinKeepers x, int machine, String want) {
        Probe.due("row(" + machine + ")", x.row(machine), want.length());
        Probe.due("the row", Probe.result(x), want);
        Probe.due("state(" + machine + ", 3)", x.state(machine, 3), want.length());
    }

    private static void sessionsAndKeys() {
        TwinKeepers x = new TwinKeepers();
        rowIs(x, 0, Probe.number(0, 4) + Probe.number(0, 4));
        x.open(0, 3);
        x.open(0, 5);
        rowIs(x, 0, Probe.number(2, 4) + session(3, 3, 0, 3, "") + session(5, 5, 0, 5, "") + Probe.number(0, 4));
        Probe.put(x, 0, 6, 5, 7, "kk", "one");
        Probe.put(x, 0, 8, 3, 2, "kk", "two");
        Probe.put(x, 0, 9, 5, 7, "kk", "two");
        Probe.put(x, 0, 10, 5, 9, "a", "");
        rowIs(x, 0, Probe.number(2, 4) + session(3, 8, 2, 8, "\1one") + session(5, 10, 9, 10, "\0")
                + Probe.number(2, 4) + key("a", "") + key("kk", "two"));
        rowIs(x, 1, Probe.number(0, 4) + Probe.number(0, 4));
    }

    private static void greatNumbers() {
        TwinKeepers x = new TwinKeepers();
        x.open(1, 0x01234);
        x.open(1, 0xabcde);
        String full = Probe.many('\u00fe', 100);
        Probe.put(x, 1, 0xabcdf, 0xabcde, 1, Probe.many('\u00ff', 32), full);
        Probe.put(x, 1, 0xabce0, 0xabcde, 0x7fedcba9, Probe.many('\u00ff', 32), "");
        rowIs(x, 1, Probe.number(2, 4) + session(0x01234, 0x01234, 0, 0x01234, "")
                + session(0xabcde, 0xabce0, 0x7fedcba9, 0xabce0, "\1" + full)
                + Probe.number(1, 4) + key(Probe.many('\u00ff', 32), ""));
    }

    private static void theResultIsACopy() {
        TwinKeepers x = new TwinKeepers();
        x.open(0, 1);
        String before = Probe.rowOf(x, 0);
        x.open(0, 2);
        x.clear(0);
        x.open(0, 3);
        Probe.due("the result behind other calls", Probe.result(x), before);
    }

    /** As many bytes as the limits allow. The document binds 512 calls alone, which can't bring so many. */
    private static void theGreatestRow() {
        TwinKeepers x = new TwinKeepers();
        for (int i = 1; i <= 16; i++) {
            x.open(0, i);
        }
        StringBuilder keys = new StringBuilder(Probe.number(128, 4));
        for (int i = 0; i < 127; i++) {
            String key = (char) i + Probe.many('k', 15);
            String value = Probe.many('v', i < 57 ? 80 : 64);
            Probe.put(x, 0, 17 + i, 1, 1 + i, key, value);
            keys.append(key(key, value));
        }
        String last = Probe.many('\u00ff', 28);
        String full = Probe.many('w', 100);
        Probe.put(x, 0, 200, 1, 200, last, full);
        StringBuilder sessions = new StringBuilder(Probe.number(16, 4));
        for (int i = 1; i <= 16; i++) {
            Probe.put(x, 0, 200 + i, i, 201, last, full);
            sessions.append(session(i, 200 + i, 201, 200 + i, "\1" + full));
        }
        Probe.due("units", x.state(0, 2), 700);
        Probe.due("bytes", x.state(0, 3), 4 + 16 * (18 + 101) + 4 + 128 * 3 + 700 * 16);
        rowIs(x, 0, sessions + keys.toString() + key(last, full));
    }

    private static void wrongMachines() {
        for (int machine : new int[] {-1, 2, Integer.MIN_VALUE, Integer.MAX_VALUE}) {
            Probe.refusedAndSame("row(" + machine + ")", Probe.INDEX, x -> {
                x.open(0, 1);
                Probe.put(x, 0, 2, 1, 1, "k", "v");
                Probe.get(x, 0, "k");
                x.feed(1, 2);
            }, x -> x.row(machine));
        }
    }

    private static void tapeAndPlaceStay() {
        TwinKeepers x = new TwinKeepers();
        x.open(0, 9);
        x.feed(1, 5);
        x.row(0);
        x.row(1);
        Probe.due("the tape", x.feed(1, 1), 6);
        Probe.due("place()", x.place(), 9);
    }
}

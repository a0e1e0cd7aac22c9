/** 'Terms', THE ROW: a test for each part of it, with the smallest and the greatest it can be. */
public final class EdgesOfRowTest {
    public static void main(String[] args) {
        theRowOfNothing();
        howManySessions();
        sessionsByTheirNumbers();
        numbersHaveFourBytes();
        theAnswersSizeHasTwo();
        howManyKeys();
        keysInOrder();
        sizesOfKeysAndValues();
        theGreatestRow();
        Probe.end();
    }

    private static void rowIs(Keeper x, int machine, String want) {
        Probe.due("state(" + machine + ", 3)", x.state(machine, 3), want.length());
        Probe.due("row(" + machine + ")", x.row(machine), want.length());
        Probe.due("the row", Probe.result(x), want);
    }

    /** No sessions and no keys: two numbers of four bytes. */
    private static void theRowOfNothing() {
        Keeper x = new Keeper();
        rowIs(x, 0, "\0\0\0\0\0\0\0\0");
        rowIs(x, 1, "\0\0\0\0\0\0\0\0");
        x.open(0, 1);
        x.clear(0);
        rowIs(x, 0, "\0\0\0\0\0\0\0\0");
    }

    /** "How many sessions (four bytes, the lowest first, ..)": 1, 16, and 16 when a 17th came. */
    private static void howManySessions() {
        Keeper x = new Keeper();
        x.open(0, 1);
        rowIs(x, 0, "\1\0\0\0" + Probe.sessionRow(1, 1, 0, 1, "") + "\0\0\0\0");
        StringBuilder sessions = new StringBuilder("\20\0\0\0");
        Keeper y = new Keeper();
        for (int place = 1; place <= 17; place++) {
            y.open(0, place);
            sessions.append(place == 1 ? "" : Probe.sessionRow(place, place, 0, place, ""));
        }
        rowIs(y, 0, sessions + "\0\0\0\0");
    }

    /** "And each, by their numbers", not by when they were used. */
    private static void sessionsByTheirNumbers() {
        Keeper x = new Keeper();
        x.open(0, 255);
        x.open(0, 256);
        x.open(0, 65536);
        Probe.put(x, 0, 70000, 256, 3, "k", "v");
        Probe.put(x, 0, 70001, 255, 0, "k", "w");
        rowIs(x, 0, "\3\0\0\0" + Probe.sessionRow(255, 70001, 0, 255, "")
                + Probe.sessionRow(256, 70000, 3, 70000, "\0") + Probe.sessionRow(65536, 65536, 0, 65536, "")
                + "\1\0\0\0" + Probe.keyRow("k", "v"));
    }

    /** "Its number, USED, SERIAL, the answer's place (4 each)": the greatest of each. */
    private static void numbersHaveFourBytes() {
        Keeper x = new Keeper();
        x.open(0, 999998);
        Probe.put(x, 0, 999999, 999998, Integer.MAX_VALUE, "k", "");
        Probe.put(x, 0, 1000000, 999998, Integer.MAX_VALUE, "k", "");
        rowIs(x, 0, "\1\0\0\0" + "\u003e\u0042\u000f\0" + "\u0040\u0042\u000f\0" + "\u00ff\u00ff\u00ff\u007f"
                + "\u003f\u0042\u000f\0" + "\1\0" + "\0" + "\1\0\0\0" + Probe.keyRow("k", ""));
    }

    /** "The answer's size (2), the answer": 0, 1 and 101 bytes, the most there can be. */
    private static void theAnswersSizeHasTwo() {
        Keeper x = new Keeper();
        x.open(0, 1);
        x.open(0, 2);
        x.open(0, 3);
        String full = Probe.many('\u00fe', 100);
        Probe.put(x, 0, 4, 2, 1, "k", full);
        Probe.put(x, 0, 5, 3, 1, "k", "v");
        rowIs(x, 0, "\3\0\0\0" + Probe.sessionRow(1, 1, 0, 1, "") + Probe.sessionRow(2, 4, 1, 4, "\0")
                + Probe.sessionRow(3, 5, 1, 5, "\1" + full) + "\1\0\0\0" + Probe.keyRow("k", "v"));
    }

    /** "How many keys (4)": 127 and 128. */
    private static void howManyKeys() {
        for (int n = 127; n <= 128; n++) {
            Desk d = Desk.withKeys(n);
            Probe.due("row", d.x.row(0), 8 + 19 + 4 * n);
            Probe.due("how many", "" + d.x.byteAt(23) + d.x.byteAt(24) + d.x.byteAt(25) + d.x.byteAt(26), n + "000");
            int end = 8 + 19 + 4 * n;
            Probe.due("the last one", d.x.byteAt(end - 1), n - 1);
            Probe.refused("a byte behind it", Probe.INDEX, d.x, x -> x.byteAt(end));
        }
    }

    /** "And each in order", not by when they were put. */
    private static void keysInOrder() {
        Desk d = new Desk();
        String[] order = {"\0", "\0\0", "\u007f", "\u0080", "\u00ff"};
        int[] mixed = {3, 1, 4, 0, 2};
        StringBuilder keys = new StringBuilder("\5\0\0\0");
        for (int i = 0; i < order.length; i++) {
            d.put(order[mixed[i]], "v" + mixed[i]);
            keys.append(Probe.keyRow(order[i], "v" + i));
        }
        rowIs(d.x, 0, "\1\0\0\0" + Probe.sessionRow(1, 6, 6, 6, "\0") + keys);
    }

    /** "Its size (1), the value's (2), the key, the value": the shortest and the longest. */
    private static void sizesOfKeysAndValues() {
        Desk d = new Desk();
        String longKey = Probe.many('k', 32);
        String longValue = Probe.many('v', 100);
        d.put("a", longValue);
        d.put(longKey, "");
        d.put("z", "");
        rowIs(d.x, 0, "\1\0\0\0" + Probe.sessionRow(1, 4, 4, 4, "\0") + "\3\0\0\0"
                + "\1" + "\u0064\0" + "a" + longValue + "\u0020" + "\0\0" + longKey + "\1" + "\0\0" + "z");
        Desk e = new Desk();
        e.put(longKey, longValue);
        rowIs(e.x, 0, "\1\0\0\0" + Probe.sessionRow(1, 2, 2, 2, "\0") + "\1\0\0\0"
                + "\u0020" + "\u0064\0" + longKey + longValue);
    }

    /** As many bytes as the limits allow, which calls beyond the bound ones alone can bring. */
    private static void theGreatestRow() {
        Keeper x = Keeper.beyondTheBoundCalls();
        for (int i = 1; i <= 16; i++) {
            x.open(0, i);
        }
        StringBuilder keys = new StringBuilder(Probe.number(128, 4));
        for (int i = 0; i < 127; i++) {
            String key = (char) i + Probe.many('k', 15);
            String value = Probe.many('v', i < 57 ? 80 : 64);
            Probe.put(x, 0, 17 + i, 1, 1 + i, key, value);
            keys.append(Probe.keyRow(key, value));
        }
        String last = Probe.many('\u00ff', 28);
        String full = Probe.many('w', 100);
        Probe.put(x, 0, 200, 1, 200, last, full);
        StringBuilder sessions = new StringBuilder(Probe.number(16, 4));
        for (int i = 1; i <= 16; i++) {
            Probe.put(x, 0, 200 + i, i, 201, last, full);
            sessions.append(Probe.sessionRow(i, 200 + i, 201, 200 + i, "\1" + full));
        }
        Probe.due("units", x.state(0, 2), 700);
        Probe.due("bytes", x.state(0, 3), 4 + 16 * (18 + 101) + 4 + 128 * 3 + 700 * 16);
        rowIs(x, 0, sessions + keys.toString() + Probe.keyRow(last, full));
        Probe.due("make(0, 1)", x.make(0, 1), true);
        rowIs(x, 1, sessions + keys.toString() + Probe.keyRow(last, full));
        Probe.due("make(0, 1) again", x.make(0, 1), false);
    }
}

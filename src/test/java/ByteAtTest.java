/** Promise 13: byteAt; and which calls make a result. */
public final class ByteAtTest {
    public static void main(String[] args) {
        allBytes();
        noSuchByte();
        aShorterResultHidesALongerOne();
        whichCallsMakeAResult();
        Probe.end();
    }

    /** "Its value is 0 .. 255". */
    private static void allBytes() {
        Keeper x = new Keeper();
        x.open(0, 1);
        for (int from = 0; from < 256; from += 64) {
            StringBuilder value = new StringBuilder();
            for (int i = 0; i < 64; i++) {
                value.append((char) (from + i));
            }
            Probe.put(x, 0, 2 + from, 1, 1 + from, "k", value.toString());
            Probe.get(x, 0, "k");
            for (int i = 0; i < 64; i++) {
                Probe.due("byteAt(" + (i + 1) + ")", x.byteAt(i + 1), from + i);
            }
        }
    }

    /** "IndexOutOfBoundsException, when there is none." */
    private static void noSuchByte() {
        for (int i : new int[] {-1, 2, 3, 255, 256, Integer.MIN_VALUE, Integer.MAX_VALUE}) {
            Probe.refusedAndSame("byteAt(" + i + ")", Probe.INDEX, x -> {
                x.open(0, 1);
                Probe.put(x, 0, 2, 1, 1, "k", "v");
                Probe.get(x, 0, "k");
            }, x -> x.byteAt(i));
        }
    }

    private static void aShorterResultHidesALongerOne() {
        Keeper x = new Keeper();
        x.open(0, 1);
        x.row(0);
        Probe.due("byteAt(25)", x.byteAt(25), 0);
        Probe.refused("byteAt(26)", Probe.INDEX, x, y -> y.byteAt(26));
        Probe.get(x, 0, "k");
        Probe.due("byteAt(0)", x.byteAt(0), 0);
        Probe.refused("byteAt(1)", Probe.INDEX, x, y -> y.byteAt(1));
        Probe.put(x, 0, 2, 7, 1, "k", "v");
        Probe.refused("byteAt(0) behind 2", Probe.INDEX, x, y -> y.byteAt(0));
    }

    private static void whichCallsMakeAResult() {
        Keeper x = new Keeper();
        x.open(0, 1);
        Probe.put(x, 0, 2, 1, 5, "k", "v");
        Probe.due("behind run", Probe.result(x), "\0");
        x.key(0, 0, 1);
        Probe.due("behind key", Probe.result(x), "v");
        x.feed(7, 1);
        x.open(0, 3);
        x.open(1, 1);
        x.make(0, 1);
        x.session(0, 0, 0);
        x.state(0, 0);
        x.place();
        x.clear(0);
        Probe.due("behind calls that make none", Probe.result(x), "v");
        x.row(0);
        Probe.due("behind row", Probe.result(x), Probe.many('\0', 8));
        Probe.emptyTape(x);
        Probe.next(x, 1, "a");
        Probe.due("behind read", Probe.result(x), "\1\1kv");
        Probe.put(x, 1, 9, 1, 4, "k", "v");
        Probe.due("behind 3", Probe.result(x), "");
    }
}

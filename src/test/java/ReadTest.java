/** Promise 5: read. */
public final class ReadTest {
    public static void main(String[] args) {
        getting();
        counting();
        next();
        edgesOfSizes();
        wrongShapesAndTapes();
        wrongMachines();
        onlyTheResultChanges();
        Probe.end();
    }

    private static Keeper filled() {
        Keeper x = new Keeper();
        x.open(0, 1);
        String[] keys = {"b", "bb", "d", "\u00f0", "\0"};
        for (int i = 0; i < keys.length; i++) {
            Probe.put(x, 0, 2 + i, 1, 1 + i, keys[i], "value" + i);
        }
        Probe.put(x, 0, 20, 1, 20, "e", "");
        return x;
    }

    private static void answer(Keeper x, String what, int bytes, String want) {
        Probe.due("bytes of " + what, bytes, want.length());
        Probe.due("result of " + what, Probe.result(x), want);
        Probe.due("the tape behind " + what, x.feed(0, 1), 1);
        Probe.emptyTape(x);
    }

    private static void getting() {
        Keeper x = filled();
        answer(x, "GET b", Probe.get(x, 0, "b"), "\1value0");
        answer(x, "GET bb", Probe.get(x, 0, "bb"), "\1value1");
        answer(x, "GET f0", Probe.get(x, 0, "\u00f0"), "\1value3");
        answer(x, "GET e", Probe.get(x, 0, "e"), "\1");
        answer(x, "GET bbb", Probe.get(x, 0, "bbb"), "\0");
        answer(x, "GET c", Probe.get(x, 0, "c"), "\0");
        answer(x, "GET ff", Probe.get(x, 0, "\u00ff"), "\0");
        answer(x, "GET b of machine 1", Probe.get(x, 1, "b"), "\0");
    }

    private static void counting() {
        Keeper x = filled();
        answer(x, "COUNT b c", Probe.count(x, 0, "b", "c"), "\2\0");
        answer(x, "COUNT b bb", Probe.count(x, 0, "b", "bb"), "\1\0");
        answer(x, "COUNT b bbb", Probe.count(x, 0, "b", "bbb"), "\2\0");
        answer(x, "COUNT a d", Probe.count(x, 0, "a", "d"), "\2\0");
        answer(x, "COUNT 0 ff", Probe.count(x, 0, "\0", "\u00ff"), "\6\0");
        answer(x, "COUNT 0 f0", Probe.count(x, 0, "\0", "\u00f0"), "\5\0");
        answer(x, "COUNT 00 f0", Probe.count(x, 0, "\0\0", "\u00f0"), "\4\0");
        answer(x, "COUNT b b", Probe.count(x, 0, "b", "b"), "\0\0");
        answer(x, "COUNT e b", Probe.count(x, 0, "e", "b"), "\0\0");
        answer(x, "COUNT bb b", Probe.count(x, 0, "bb", "b"), "\0\0");
        answer(x, "COUNT of machine 1", Probe.count(x, 1, "\0", "\u00ff"), "\0\0");
        Keeper y = new Keeper();
        y.open(1, 1);
        for (int i = 0; i < 128; i++) {
            Probe.put(y, 1, 2 + i, 1, 1 + i, "" + (char) i, "");
        }
        answer(y, "COUNT of 128", Probe.count(y, 1, "\0", "\u00ff"), "\u0080\0");
    }

    private static void next() {
        Keeper x = filled();
        answer(x, "NEXT b", Probe.next(x, 0, "b"), "\1\1bvalue0");
        answer(x, "NEXT b0", Probe.next(x, 0, "b\0"), "\1\2bbvalue1");
        answer(x, "NEXT bbb", Probe.next(x, 0, "bbb"), "\1\1dvalue2");
        answer(x, "NEXT e", Probe.next(x, 0, "e"), "\1\1e");
        answer(x, "NEXT 0", Probe.next(x, 0, "\0"), "\1\1\0value4");
        answer(x, "NEXT 80", Probe.next(x, 0, "\u0080"), "\1\1\u00f0value3");
        answer(x, "NEXT f1", Probe.next(x, 0, "\u00f1"), "\0");
        answer(x, "NEXT f00", Probe.next(x, 0, "\u00f0\0"), "\0");
        answer(x, "NEXT of machine 1", Probe.next(x, 1, "\0"), "\0");
    }

    private static void edgesOfSizes() {
        Keeper x = new Keeper();
        x.open(0, 1);
        String longKey = Probe.many('k', 32);
        String longValue = Probe.many('v', 100);
        Probe.put(x, 0, 2, 1, 1, longKey, longValue);
        answer(x, "GET of 32", Probe.get(x, 0, longKey), "\1" + longValue);
        answer(x, "NEXT of 32", Probe.next(x, 0, longKey), "\1\u0020" + longKey + longValue);
        answer(x, "COUNT of 32 and 32", Probe.count(x, 0, longKey, Probe.many('l', 32)), "\1\0");
        answer(x, "COUNT of 1 and 32", Probe.count(x, 0, "a", longKey), "\0\0");
        answer(x, "COUNT of 32 and 1", Probe.count(x, 0, longKey, "l"), "\1\0");
    }

    private static void refused(String tape, int shape) {
        Probe.refusedAndTapeEmpty("shape " + shape + " with " + tape.length(), Probe.ARGUMENT, x -> {
            x.open(0, 1);
            Probe.put(x, 0, 2, 1, 1, "k", "value");
            Probe.get(x, 0, "k");
            Probe.feedText(x, tape);
        }, x -> x.read(0, shape));
    }

    /** "READING likewise (3 .. 5; the tape has the key, for COUNT the first and then the second one)". */
    private static void wrongShapesAndTapes() {
        for (int kind : new int[] {0, 1, 2, 6, 7}) {
            refused("k", kind + 8);
            refused("kk", kind + 8);
        }
        for (int kind = Probe.GET; kind <= Probe.NEXT; kind++) {
            refused("", kind);
            refused("k", kind);
            refused("", kind + 8);
            refused("k", kind + 16);
            refused("kkk", kind - 8);
            refused("k", kind + 8 + Integer.MIN_VALUE);
            refused("k", kind + 8 + 512);
            refused("kk", kind + 8 + 512);
            refused("kk", kind + 8 + (1 << 30));
            refused(Probe.many('k', 65), kind + 8 * 65);
            refused(Probe.many('k', 66), kind + 8 * 65);
            refused(Probe.many('k', 33), kind + 8 * 33);
            refused(Probe.many('k', 34), kind + 8 * 33);
            refused("k", Integer.MAX_VALUE - 7 + kind);
            refused("kk", -1);
        }
        for (int kind : new int[] {Probe.GET, Probe.NEXT}) {
            refused("kk", kind + 8);
            refused(Probe.many('k', 33), kind + 8 * 32);
            refused(Probe.many('k', 300), kind + 8 * 32);
        }
        refused("k", Probe.COUNT + 8);
        refused(Probe.many('k', 34), Probe.COUNT + 8);
        refused(Probe.many('k', 32), Probe.COUNT + 8 * 32);
        refused(Probe.many('k', 65), Probe.COUNT + 8 * 32);
    }

    private static void wrongMachines() {
        for (int machine : new int[] {-1, 2, Integer.MIN_VALUE, Integer.MAX_VALUE}) {
            for (int shape : new int[] {Probe.GET + 8, -1, 8}) {
                Probe.refusedAndTapeEmpty("read(" + machine + ", " + shape + ")", Probe.INDEX, x -> {
                    x.open(0, 1);
                    Probe.put(x, 0, 2, 1, 1, "k", "value");
                    x.feed('k', 1);
                }, x -> x.read(machine, shape));
            }
        }
    }

    private static void onlyTheResultChanges() {
        Keeper x = filled();
        String row = Probe.rowOf(x, 0);
        Probe.get(x, 0, "b");
        Probe.count(x, 0, "b", "e");
        Probe.next(x, 0, "b");
        Probe.due("place()", x.place(), 20);
        Probe.due("state(0, 4)", x.state(0, 4), 20);
        Probe.due("the row", Probe.rowOf(x, 0), row);
    }
}

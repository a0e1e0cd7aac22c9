/** Promise 1: a new object; and the constant. */
public final class NewObjectTest {
    public static void main(String[] args) {
        bothMachinesAreAsAtFirst();
        nothingIsThere();
        objectsShareNothing();
        allOf512CallsAnswer();
        Probe.due("NONE", TwinKeepers.NONE, -1);
        Probe.end();
    }

    /** "Two machines as at first." */
    private static void bothMachinesAreAsAtFirst() {
        Keeper x = new Keeper();
        int[] want = {0, 0, 0, 8, 0};
        for (int machine = 0; machine < 2; machine++) {
            for (int what = 0; what < want.length; what++) {
                Probe.due("state(" + machine + ", " + what + ")", x.state(machine, what), want[what]);
            }
            Probe.due("row(" + machine + ")", Probe.rowOf(x, machine), Probe.many('\0', 8));
        }
        Probe.due("make(0, 1) of new ones", x.make(0, 1), false);
    }

    /** "THE TAPE .. empty at first. THE RESULT .. empty at first"; place() is "0 before". */
    private static void nothingIsThere() {
        Keeper x = new Keeper();
        Probe.due("place()", x.place(), 0);
        Probe.refused("byteAt(0)", Probe.INDEX, x, y -> y.byteAt(0));
        Probe.refused("session(0, 0, 0)", Probe.INDEX, x, y -> y.session(0, 0, 0));
        Probe.refused("key(1, 0, 0)", Probe.INDEX, x, y -> y.key(1, 0, 0));
        Probe.due("the first feed", x.feed(5, 1), 1);
    }

    private static void objectsShareNothing() {
        Keeper one = new Keeper();
        Keeper other = new Keeper();
        one.open(0, 5);
        Probe.put(one, 0, 6, 5, 1, "key", "value");
        one.feed(1, 8);
        Probe.due("the other object", Probe.picture(other), Probe.picture(new Keeper()));
    }

    /** "An object is used for at most 512 calls": the last of them is answered like the others. */
    private static void allOf512CallsAnswer() {
        Keeper x = new Keeper();
        Probe.due("the first call", x.open(0, 1), 1);
        for (int i = 1; i <= 255; i++) {
            Probe.due("feed", x.feed(i % 128, 1), 1);
            Probe.due("run", x.run(0, 1 + i, 1, i, 8), 0);
        }
        Probe.due("the 512th call", x.row(0), 8 + 18 + 1 + 128 * 4);
    }
}

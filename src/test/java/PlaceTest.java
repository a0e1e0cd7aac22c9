/** Promise 12: place. */
public final class PlaceTest {
    public static void main(String[] args) {
        Keeper x = new Keeper();
        is(x, "at first", 0);
        x.open(0, 10);
        is(x, "open", 10);
        Probe.put(x, 0, 11, 10, 0, "k", "");
        is(x, "1 of a new session: the place of OPEN", 10);
        Probe.put(x, 0, 12, 10, 5, "k", "");
        is(x, "0", 12);
        Probe.put(x, 0, 13, 10, 4, "k", "");
        is(x, "3: the place told", 13);
        Probe.put(x, 0, 14, 10, 5, "k", "");
        is(x, "1: the answer's place", 12);
        Probe.put(x, 0, 15, 99, 5, "k", "");
        is(x, "2: the place told", 15);
        x.open(1, 3);
        is(x, "open of the other machine", 3);
        callsThatLeaveIt(x);
        callsThatThrow(x);
        Probe.end();
    }

    private static void is(Keeper x, String behind, int want) {
        Probe.due("place() behind " + behind, x.place(), want);
    }

    private static void callsThatLeaveIt(Keeper x) {
        Probe.get(x, 0, "k");
        x.row(0);
        x.key(0, 0, 0);
        x.session(0, 0, 1);
        x.state(0, 4);
        x.feed(1, 1);
        x.make(0, 1);
        x.clear(0);
        is(x, "calls that leave it", 3);
    }

    private static void callsThatThrow(Keeper x) {
        Probe.refused("open(1, 1)", Probe.ARGUMENT, x, y -> y.open(1, 1));
        Probe.refused("open(2, 100)", Probe.INDEX, x, y -> y.open(2, 100));
        Probe.refused("run", Probe.ARGUMENT, x, y -> y.run(1, 100, 10, 9, 16));
        is(x, "calls that throw", 3);
    }
}

/** Promise 11: state. */
public final class StateTest {
    public static void main(String[] args) {
        whatIsAsked();
        theGreatestPlaceCountsWhateverIsAnswered();
        wrongOnes();
        nothingChanges();
        Probe.end();
    }

    private static void is(Keeper x, int machine, int... want) {
        for (int what = 0; what < want.length; what++) {
            Probe.due("state(" + machine + ", " + what + ")", x.state(machine, what), want[what]);
        }
    }

    private static void fill(Keeper x) {
        x.open(0, 5);
        x.open(0, 6);
        Probe.put(x, 0, 7, 5, 1, "key", "value");
        Probe.put(x, 0, 8, 5, 2, "longer", "a value of nineteen");
        x.feed(1, 2);
    }

    private static void whatIsAsked() {
        Keeper x = new Keeper();
        is(x, 0, 0, 0, 0, 8, 0);
        fill(x);
        is(x, 0, 2, 2, 3, 8 + 19 + 18 + 11 + 28, 8);
        is(x, 1, 0, 0, 0, 8, 0);
        Probe.emptyTape(x);
        Probe.remove(x, 0, 9, 5, 3, "longer");
        is(x, 0, 2, 1, 1, 8 + 38 + 18 + 11, 9);
    }

    private static void theGreatestPlaceCountsWhateverIsAnswered() {
        Keeper x = new Keeper();
        x.open(0, 5);
        Probe.put(x, 0, 10, 5, 3, "k", "");
        Probe.due("behind 0", x.state(0, 4), 10);
        Probe.put(x, 0, 20, 5, 3, "k", "");
        Probe.due("behind 1", x.state(0, 4), 20);
        Probe.put(x, 0, 30, 6, 3, "k", "");
        Probe.due("behind 2", x.state(0, 4), 30);
        Probe.put(x, 0, 40, 5, 2, "k", "");
        Probe.due("behind 3", x.state(0, 4), 40);
        Probe.refused("open(0, 40)", Probe.ARGUMENT, x, y -> y.open(0, 40));
        Probe.due("the other machine's", x.state(1, 4), 0);
    }

    /** "IndexOutOfBoundsException, when there is no such machine or what." */
    private static void wrongOnes() {
        for (int bad : new int[] {-1, 5, 6, Integer.MIN_VALUE, Integer.MAX_VALUE}) {
            Probe.refusedAndSame("state(0, " + bad + ")", Probe.INDEX, StateTest::fill, x -> x.state(0, bad));
            Probe.refusedAndSame("state(" + bad + ", 0)", Probe.INDEX, StateTest::fill, x -> x.state(bad, 0));
        }
        Probe.refusedAndSame("state(2, 0)", Probe.INDEX, StateTest::fill, x -> x.state(2, 0));
    }

    private static void nothingChanges() {
        Keeper x = new Keeper();
        Keeper y = new Keeper();
        fill(x);
        fill(y);
        for (int what = 0; what < 5; what++) {
            x.state(0, what);
        }
        Probe.due("the picture", Probe.picture(x), Probe.picture(y));
    }
}

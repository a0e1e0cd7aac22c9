/** Promise 7: make. */
public final class MakeTest {
    public static void main(String[] args) {
        oneBecomesTheOther();
        theyAreApartAfterwards();
        anythingOfTheRowMakesThemDifferent();
        greatestPlaces();
        placesGoOnThroughMakes();
        bothOne();
        tapeResultAndPlaceStay();
        wrongMachines();
        Probe.end();
    }

    private static void fill(Keeper x, int machine) {
        x.open(machine, 1);
        x.open(machine, 2);
        Probe.put(x, machine, 3, 1, 4, "key", "one");
        Probe.put(x, machine, 5, 1, 5, "key", "two");
        Probe.put(x, machine, 6, 2, 1, "long" + Probe.many('k', 20), "");
    }

    private static void oneBecomesTheOther() {
        for (int from = 0; from < 2; from++) {
            int to = 1 - from;
            Keeper x = new Keeper();
            fill(x, from);
            String row = Probe.rowOf(x, from);
            x.open(to, 1);
            Probe.put(x, to, 2, 1, 1, "else", "goes");
            Probe.due("make", x.make(from, to), true);
            Probe.due("row of to", Probe.rowOf(x, to), row);
            Probe.due("row of from", Probe.rowOf(x, from), row);
            for (int what = 0; what < 5; what++) {
                Probe.due("state " + what, x.state(to, what), x.state(from, what));
            }
            Probe.due("units", x.state(to, 2), 3);
            Probe.due("make again", x.make(from, to), false);
            Probe.due("make back", x.make(to, from), false);
            Probe.due("a command again", Probe.put(x, to, 7, 1, 5, "key", "two"), 1);
            Probe.due("its answer", Probe.result(x), "\1one");
            Probe.due("its place", x.place(), 5);
            Probe.due("make, as USED differs", x.make(from, to), true);
            Probe.due("row of to", Probe.rowOf(x, to), row);
        }
    }

    private static void theyAreApartAfterwards() {
        Keeper x = new Keeper();
        fill(x, 0);
        x.make(0, 1);
        String row = Probe.rowOf(x, 0);
        Probe.put(x, 1, 10, 1, 9, "key", "three");
        Probe.remove(x, 1, 11, 1, 10, "long" + Probe.many('k', 20));
        x.open(1, 12);
        Probe.due("row of 0", Probe.rowOf(x, 0), row);
        Probe.due("units of 0", x.state(0, 2), 3);
        Probe.due("place of 0", x.state(0, 4), 6);
        x.make(0, 1);
        x.clear(0);
        Probe.due("row of 1", Probe.rowOf(x, 1), row);
    }

    private static void differs(String what, Probe.Act act) {
        Keeper x = new Keeper();
        fill(x, 0);
        x.make(0, 1);
        act.on(x);
        String row = Probe.rowOf(x, 0);
        Probe.due("make behind " + what, x.make(0, 1), true);
        Probe.due("row behind " + what, Probe.rowOf(x, 1), row);
        Probe.due("make again behind " + what, x.make(1, 0), false);
    }

    /** "Whether their rows were different". */
    private static void anythingOfTheRowMakesThemDifferent() {
        differs("open", x -> x.open(0, 7));
        differs("being used", x -> Probe.put(x, 0, 7, 1, 0, "k", ""));
        differs("a serial", x -> Probe.put(x, 0, 7, 1, 6, "key", "two"));
        differs("a value", x -> Probe.put(x, 0, 7, 1, 6, "key", "tww"));
        differs("a key", x -> Probe.put(x, 0, 7, 1, 6, "kez", "two"));
        differs("clear of from", x -> x.clear(0));
        differs("clear of to", x -> x.clear(1));
        Keeper x = new Keeper();
        fill(x, 0);
        x.make(0, 1);
        Probe.put(x, 0, 8, 1, 9, "key", "abc");
        Probe.put(x, 1, 8, 1, 9, "key", "abd");
        Probe.due("values alone differ", x.make(0, 1), true);
        Probe.put(x, 0, 9, 1, 10, "kex", "abc");
        Probe.put(x, 1, 9, 1, 10, "key", "abc");
        Probe.due("keys and answers differ", x.make(0, 1), true);
        keysAloneDiffer();
        Probe.put(x, 0, 10, 77, 10, "kex", "abc");
        Probe.due("a place alone is not of the row", x.make(0, 1), false);
        Probe.due("but it comes along", x.state(1, 4), 10);
        sessionsAloneDiffer();
        numbersAloneDiffer();
    }

    private static void numbersAloneDiffer() {
        Keeper x = new Keeper();
        x.open(0, 1);
        x.open(1, 2);
        Probe.put(x, 0, 5, 1, 1, "k", "v");
        Probe.put(x, 1, 5, 2, 1, "k", "v");
        Probe.due("numbers alone differ", x.make(0, 1), true);
        Probe.due("the number", x.session(1, 0, 0), 1);
        Probe.due("nothing differs", x.make(1, 0), false);
    }

    /** Sessions with the same answers, 0, beside other maps. */
    private static void keysAloneDiffer() {
        Keeper x = new Keeper();
        x.open(0, 1);
        x.open(1, 1);
        Probe.put(x, 0, 2, 1, 1, "a", "v");
        Probe.remove(x, 1, 2, 1, 1, "a");
        Probe.due("there are more keys", x.make(0, 1), true);
        Probe.remove(x, 0, 3, 1, 2, "b");
        Probe.put(x, 1, 3, 1, 2, "b", "v");
        Probe.due("there are fewer keys", x.make(0, 1), true);
        Probe.due("the key that was more is gone", x.state(1, 1), 1);
        Probe.put(x, 0, 4, 1, 3, "c", "v");
        Probe.put(x, 1, 4, 1, 3, "d", "v");
        Probe.due("keys alone differ", x.make(0, 1), true);
        Probe.put(x, 0, 5, 1, 4, "e", "v");
        Probe.put(x, 1, 5, 1, 4, "e", "w");
        Probe.due("a value alone differs", x.make(0, 1), true);
        Probe.put(x, 0, 6, 1, 5, "f", "g");
        Probe.put(x, 1, 6, 1, 5, "fg", "");
        Probe.due("where a key ends differs", x.make(0, 1), true);
        Probe.due("nothing differs", x.make(1, 0), false);
    }

    private static void sessionsAloneDiffer() {
        Keeper x = new Keeper();
        x.open(0, 1);
        x.open(1, 2);
        Probe.put(x, 0, 5, 1, 0, "k", "");
        Probe.put(x, 1, 5, 2, 0, "k", "");
        Probe.due("numbers and places differ", x.make(0, 1), true);
        Probe.put(x, 0, 6, 1, 1, "k", "");
        Probe.put(x, 0, 8, 1, 0, "k", "");
        Probe.put(x, 1, 7, 1, 1, "k", "");
        Probe.put(x, 1, 8, 1, 0, "k", "");
        Probe.due("the answer's places differ", x.make(0, 1), true);
        Probe.put(x, 0, 9, 1, 2, "k", "");
        Probe.put(x, 1, 9, 1, 3, "k", "");
        Probe.due("serials differ", x.make(0, 1), true);
        Probe.remove(x, 0, 10, 1, 4, "k");
        Probe.swap(x, 1, 10, 1, 4, "k", "x", "y");
        Probe.remove(x, 1, 11, 1, 5, "k");
        x.make(0, 1);
        Probe.remove(x, 0, 12, 1, 6, "k");
        Probe.swap(x, 1, 12, 1, 6, "k", "x", "y");
        Probe.due("answers alone differ", x.make(0, 1), true);
        Probe.due("the answer", Probe.put(x, 1, 13, 1, 6, "k", ""), 1);
        Probe.due("its bytes", Probe.result(x), "\0");
    }

    /** "Its greatest place is the greater one of both". */
    private static void greatestPlaces() {
        Keeper x = new Keeper();
        x.open(0, 100);
        x.open(1, 40);
        Probe.due("make(1, 0)", x.make(1, 0), true);
        Probe.due("the greater stays", x.state(0, 4), 100);
        Probe.due("from has its own", x.state(1, 4), 40);
        Probe.refused("open(0, 100)", Probe.ARGUMENT, x, y -> y.open(0, 100));
        Probe.due("open(0, 101)", x.open(0, 101), 2);
        Probe.due("make(0, 1)", x.make(0, 1), true);
        Probe.due("the greater comes", x.state(1, 4), 101);
        Probe.refused("open(1, 101)", Probe.ARGUMENT, x, y -> y.open(1, 101));
    }

    private static void placesGoOnThroughMakes() {
        Keeper x = new Keeper();
        x.open(0, 500);
        x.clear(0);
        Probe.due("make of empty ones", x.make(0, 1), false);
        Probe.due("the place comes, too", x.state(1, 4), 500);
        Probe.refused("open(1, 500)", Probe.ARGUMENT, x, y -> y.open(1, 500));
        Probe.due("open(1, 501)", x.open(1, 501), 1);
    }

    /** "(Both may be one)". */
    private static void bothOne() {
        Keeper x = new Keeper();
        fill(x, 1);
        String row = Probe.rowOf(x, 1);
        Probe.due("make(1, 1)", x.make(1, 1), false);
        Probe.due("make(0, 0)", x.make(0, 0), false);
        Probe.due("the row", Probe.rowOf(x, 1), row);
        Probe.due("the greatest place", x.state(1, 4), 6);
        Probe.due("the other", x.state(0, 4), 0);
    }

    private static void tapeResultAndPlaceStay() {
        Keeper x = new Keeper();
        fill(x, 0);
        Probe.get(x, 0, "key");
        x.open(1, 77);
        x.feed(1, 6);
        x.make(0, 1);
        x.make(0, 1);
        x.make(1, 1);
        Probe.due("the result", Probe.result(x), "\1two");
        Probe.due("place()", x.place(), 77);
        Probe.due("the tape", x.feed(1, 1), 7);
    }

    /** "As for row()", for from and for to. */
    private static void wrongMachines() {
        int[][] pairs = {{0, 2}, {2, 0}, {-1, 0}, {0, -1}, {2, 2}, {-1, -1}, {1, Integer.MAX_VALUE},
            {Integer.MIN_VALUE, 1}};
        for (int[] pair : pairs) {
            Probe.refusedAndSame("make(" + pair[0] + ", " + pair[1] + ")", Probe.INDEX, x -> {
                fill(x, 0);
                x.feed(1, 3);
            }, x -> x.make(pair[0], pair[1]));
        }
    }
}

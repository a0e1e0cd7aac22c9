/** 'Terms', MACHINES, SESSIONS, places, OPEN and DO: a test for each sentence that names a boundary. */
public final class EdgesOfSessionsTest {
    public static void main(String[] args) {
        machines0And1();
        noOtherMachines();
        atMost16Sessions();
        atMost16SessionsOfEachMachine();
        placesFrom1();
        placesTo1000000();
        behindTheLastPlace();
        placesAboveThoseOfThisMachine();
        placesOfTheOtherMachineAreFree();
        placesAboveThoseItWasMadeFrom();
        whatOpenMakes();
        with15SessionsNoneIsGone();
        theOneUsedTheLongestAgoIsGone();
        whatIsUse();
        whatIsNoUse();
        aRefusedOpenTakesNoSession();
        whatASessionHasDoneStaysWhenItIsGone();
        noSuchSession();
        theSerialIsItsOwn();
        theSerialIsBelow();
        theSerialIsAbove();
        Probe.end();
    }

    /** Both machines have a session, a key, a result is there, and the tape has the key. */
    private static void history(Keeper x) {
        for (int machine = 0; machine < 2; machine++) {
            x.open(machine, 10 + machine);
            Probe.put(x, machine, 20 + machine, 10 + machine, 5, "k", "of " + machine);
        }
        Probe.get(x, 0, "k");
        x.feed('k', 1);
    }

    private static Probe.Act[] callsOn(int machine) {
        return new Probe.Act[] {
            x -> x.open(machine, 30), x -> x.row(machine), x -> x.make(machine, 0), x -> x.make(1, machine),
            x -> x.clear(machine), x -> x.session(machine, 0, 0), x -> x.key(machine, 0, 0), x -> x.state(machine, 0),
        };
    }

    private static Probe.Act[] callsWithTheTapeOn(int machine) {
        return new Probe.Act[] {x -> x.run(machine, 30, 10, 6, 8), x -> x.read(machine, Probe.GET + 8)};
    }

    /** "MACHINES 0 and 1": each call takes both. */
    private static void machines0And1() {
        for (int machine = 0; machine < 2; machine++) {
            for (Probe.Act[] calls : new Probe.Act[][] {callsOn(machine), callsWithTheTapeOn(machine)}) {
                for (Probe.Act call : calls) {
                    Keeper x = new Keeper();
                    history(x);
                    Probe.due("a call on machine " + machine + " throws", Probe.thrownBy(x, call), "nothing");
                }
            }
        }
    }

    /** "MACHINES 0 and 1": no call takes another, and all is left as it was, but for the tape of run() and read(). */
    private static void noOtherMachines() {
        for (int machine : new int[] {-1, 2, Integer.MIN_VALUE, Integer.MAX_VALUE}) {
            for (Probe.Act call : callsOn(machine)) {
                Probe.refusedAndSame("a call on machine " + machine, Probe.INDEX, EdgesOfSessionsTest::history, call);
            }
            for (Probe.Act call : callsWithTheTapeOn(machine)) {
                Probe.refusedAndTapeEmpty("run() or read() on machine " + machine, Probe.INDEX,
                        EdgesOfSessionsTest::history, call);
            }
        }
    }

    private static void numbersAre(Keeper x, int machine, int... numbers) {
        Probe.due("sessions", x.state(machine, 0), numbers.length);
        for (int k = 0; k < numbers.length; k++) {
            Probe.due("number of session " + k, x.session(machine, k, 0), numbers[k]);
        }
        Probe.refused("a session behind the last one", Probe.INDEX, x, y -> y.session(machine, numbers.length, 0));
    }

    private static int[] upTo(int first, int last) {
        int[] made = new int[last - first + 1];
        for (int i = 0; i < made.length; i++) {
            made[i] = first + i;
        }
        return made;
    }

    private static Keeper withSessions(int n) {
        Keeper x = new Keeper();
        for (int place = 1; place <= n; place++) {
            Probe.due("open(0, " + place + ")", x.open(0, place), place);
        }
        return x;
    }

    /** "SESSIONS, at most 16": the 16th comes to the others; with the 17th there are 16. */
    private static void atMost16Sessions() {
        Keeper x = withSessions(15);
        Probe.due("the 16th", x.open(0, 16), 16);
        numbersAre(x, 0, upTo(1, 16));
        Probe.due("the 17th", x.open(0, 17), 16);
        numbersAre(x, 0, upTo(2, 17));
        Probe.due("the 18th", x.open(0, 18), 16);
        numbersAre(x, 0, upTo(3, 18));
    }

    /** "Each with SESSIONS": the other machine's sessions are not counted, and none of them goes. */
    private static void atMost16SessionsOfEachMachine() {
        Keeper x = withSessions(16);
        Probe.due("the first one of the other", x.open(1, 1), 1);
        for (int place = 2; place <= 17; place++) {
            x.open(1, place);
        }
        numbersAre(x, 0, upTo(1, 16));
        numbersAre(x, 1, upTo(2, 17));
    }

    private static void openRefused(String what, Probe.Act history, int machine, int place) {
        Probe.refusedAndSame("open at " + place + " " + what, Probe.ARGUMENT, history, x -> x.open(machine, place));
    }

    private static void runRefused(String what, Probe.Act history, int machine, int place) {
        Probe.refusedAndTapeEmpty("run at " + place + " " + what, Probe.ARGUMENT, x -> {
            history.on(x);
            Probe.emptyTape(x);
            x.feed('k', 1);
        }, x -> x.run(machine, place, 10, 6, 8));
    }

    /** "A place, 1 to 1000000": 1 is one, 0 is none. */
    private static void placesFrom1() {
        Keeper x = new Keeper();
        Probe.due("open(0, 1)", x.open(0, 1), 1);
        Probe.due("its number", x.session(0, 0, 0), 1);
        Probe.due("run at 1", Probe.put(x, 1, 1, 1, 1, "k", "v"), 2);
        Probe.due("the greatest place", x.state(1, 4), 1);
        for (int place : new int[] {0, -1, Integer.MIN_VALUE}) {
            openRefused("of a new object", y -> { }, 0, place);
            runRefused("of a new object", y -> { }, 1, place);
        }
    }

    /** "A place, 1 to 1000000": 1000000 is one, 1000001 is none. */
    private static void placesTo1000000() {
        for (int place : new int[] {999999, 1000000}) {
            Keeper x = new Keeper();
            history(x);
            Probe.due("open at " + place, x.open(0, place), 2);
            Probe.due("its number", x.session(0, 1, 0), place);
            Probe.due("run at " + place, x.run(1, place, 11, 6, 8), 0);
            Probe.due("its place", x.place(), place);
            Probe.due("the greatest place", x.state(1, 4), place);
        }
        for (int place : new int[] {1000001, 1048576, Integer.MAX_VALUE}) {
            openRefused("of a new object", y -> { }, 0, place);
            openRefused("behind others", EdgesOfSessionsTest::history, 0, place);
            runRefused("of a new object", y -> { }, 1, place);
            runRefused("behind others", EdgesOfSessionsTest::history, 0, place);
        }
    }

    /** A machine whose greatest place is 1000000 has no further one; clear() and make() bring none back. */
    private static void behindTheLastPlace() {
        Probe.Act full = x -> {
            history(x);
            x.open(0, 1000000);
        };
        Probe.Act cleared = x -> {
            full.on(x);
            x.clear(0);
        };
        Probe.Act made = x -> {
            full.on(x);
            x.make(1, 0);
        };
        for (Probe.Act history : new Probe.Act[] {full, cleared, made}) {
            for (int place : new int[] {1, 999999, 1000000, 1000001}) {
                openRefused("behind 1000000", history, 0, place);
                runRefused("behind 1000000", history, 0, place);
            }
            Keeper x = new Keeper();
            history.on(x);
            Probe.due("the greatest place", x.state(0, 4), 1000000);
            Probe.due("open of the other machine", x.open(1, 22), 2);
        }
    }

    /** "Above all those before (of this machine)": the next is right, the same and the one below are wrong. */
    private static void placesAboveThoseOfThisMachine() {
        Probe.Act[] histories = {
            x -> x.open(0, 100),
            x -> {
                history(x);
                x.run(0, 100, 10, 6, 8);
            },
            x -> {
                history(x);
                x.run(0, 100, 10, 5, 8);
            },
            x -> {
                history(x);
                x.run(0, 100, 10, 4, 8);
            },
            x -> {
                history(x);
                x.run(0, 100, 11, 6, 8);
            },
        };
        for (Probe.Act history : histories) {
            for (int place : new int[] {100, 99, 21, 1}) {
                openRefused("behind 100", history, 0, place);
                runRefused("behind 100", history, 0, place);
            }
            Keeper x = new Keeper();
            history.on(x);
            x.open(0, 101);
            Probe.due("the greatest place", x.state(0, 4), 101);
            Probe.put(x, 0, 102, 101, 1, "k", "v");
            Probe.due("the greatest place", x.state(0, 4), 102);
        }
    }

    /** "Of this machine": the places of the other one bind nothing. */
    private static void placesOfTheOtherMachineAreFree() {
        Keeper x = new Keeper();
        x.open(0, 100);
        Probe.due("open(1, 1)", x.open(1, 1), 1);
        Probe.due("open(1, 100)", x.open(1, 100), 2);
        Probe.due("run at 101 of 0", Probe.put(x, 0, 101, 100, 1, "k", "v"), 0);
        Probe.due("run at 101 of 1", Probe.put(x, 1, 101, 100, 1, "k", "v"), 0);
    }

    /** "And of all that it was made from": also through a third one, and of one that was cleared since. */
    private static void placesAboveThoseItWasMadeFrom() {
        Probe.Act made = x -> {
            x.open(0, 100);
            x.open(1, 40);
            x.make(0, 1);
        };
        Probe.Act madeBack = x -> {
            x.open(0, 100);
            x.clear(0);
            x.make(0, 1);
            x.open(1, 101);
            x.clear(1);
            x.make(1, 0);
        };
        openRefused("behind make()", made, 1, 100);
        runRefused("behind make()", made, 1, 100);
        openRefused("behind two makes", madeBack, 0, 101);
        runRefused("behind two makes", madeBack, 0, 101);
        Keeper x = new Keeper();
        made.on(x);
        Probe.due("open(1, 101)", x.open(1, 101), 2);
        Probe.due("open(0, 101)", x.open(0, 101), 2);
        x.open(0, 200);
        Probe.due("what came behind make() binds not", x.open(1, 102), 3);
        Keeper y = new Keeper();
        madeBack.on(y);
        Probe.due("open(0, 102)", y.open(0, 102), 1);
        Probe.due("open(1, 102)", y.open(1, 102), 1);
    }

    private static void sessionIs(Keeper x, int machine, int k, int... want) {
        for (int what = 0; what < want.length; what++) {
            String call = "session(" + machine + ", " + k + ", " + what + ")";
            Probe.due(call, x.session(machine, k, what), want[what]);
        }
    }

    /** "A session with the place as its number, as USED and as the answer's place, serial 0, answer empty." */
    private static void whatOpenMakes() {
        for (int place : new int[] {1, 999999, 1000000}) {
            Keeper x = new Keeper();
            x.open(1, place);
            sessionIs(x, 1, 0, place, place, 0, place, 0);
            Probe.due("place()", x.place(), place);
        }
        Keeper x = withSessions(16);
        Probe.put(x, 0, 17, 1, 9, "k", "v");
        x.open(0, 18);
        sessionIs(x, 0, 0, 1, 17, 9, 17, 1);
        sessionIs(x, 0, 15, 18, 18, 0, 18, 0);
    }

    /** "Were there 16": with 15 none is gone, however long ago it was used. */
    private static void with15SessionsNoneIsGone() {
        Keeper x = withSessions(15);
        for (int number = 2; number <= 15; number++) {
            Probe.put(x, 0, 100 + number, number, 1, "k", "v");
        }
        Probe.due("the 16th", x.open(0, 200), 16);
        sessionIs(x, 0, 0, 1, 1, 0, 1, 0);
    }

    /** "The one that was used the longest ago is gone before", whichever it is by its number. */
    private static void theOneUsedTheLongestAgoIsGone() {
        for (int oldest = 1; oldest <= 16; oldest++) {
            Keeper x = withSessions(16);
            int place = 16;
            int[] numbers = new int[16];
            int n = 0;
            for (int number = 1; number <= 16; number++) {
                if (number != oldest) {
                    numbers[n] = number;
                    n++;
                }
            }
            for (int i = 14; i >= 0; i--) {
                place++;
                Probe.put(x, 0, place, numbers[i], 0, "k", "v");
            }
            numbers[15] = place + 1;
            Probe.due("the 17th", x.open(0, place + 1), 16);
            numbersAre(x, 0, numbers);
        }
    }

    /** "Else it is used now": by 0, by 1 and by 3; so the next one is gone, not this. */
    private static void whatIsUse() {
        int[] serials = {7, 6, 5};
        int[] answers = {0, 1, 3};
        for (int i = 0; i < serials.length; i++) {
            Keeper x = new Keeper();
            x.open(0, 1);
            Probe.put(x, 0, 2, 1, 6, "k", "v");
            for (int place = 11; place <= 25; place++) {
                x.open(0, place);
            }
            Probe.due("run", Probe.put(x, 0, 30, 1, serials[i], "k", "v"), answers[i]);
            Probe.due("USED behind " + answers[i], x.session(0, 0, 1), 30);
            x.open(0, 31);
            Probe.due("the first number behind " + answers[i], x.session(0, 0, 0), 1);
            Probe.due("the second number behind " + answers[i], x.session(0, 1, 0), 12);
        }
    }

    /** Of all else nothing uses a session: 2, calls that throw, readings, make() and what asks for it. */
    private static void whatIsNoUse() {
        Probe.Act[] acts = {
            x -> Probe.put(x, 0, 30, 99, 1, "k", "v"),
            x -> Probe.thrownBy(x, y -> Probe.put(y, 0, 16, 1, 1, "k", "v")),
            x -> Probe.thrownBy(x, y -> Probe.put(y, 0, 30, 1, -1, "k", "v")),
            x -> Probe.thrownBy(x, y -> Probe.put(y, 0, 30, 1, 1, "", "v")),
            x -> Probe.get(x, 0, "k"),
            x -> x.session(0, 0, 1),
            x -> x.row(0),
            x -> x.make(0, 0),
            x -> {
                x.make(0, 1);
                x.make(1, 0);
            },
            x -> Probe.put(x, 1, 30, 1, 1, "k", "v"),
        };
        for (Probe.Act act : acts) {
            Keeper x = withSessions(16);
            act.on(x);
            Probe.due("USED", x.session(0, 0, 1), 1);
            x.open(0, 31);
            Probe.due("the first number", x.session(0, 0, 0), 2);
        }
    }

    /** A place that is wrong takes no session away, though there are 16. */
    private static void aRefusedOpenTakesNoSession() {
        for (int place : new int[] {16, 0, 1000001}) {
            Keeper x = withSessions(16);
            Probe.refused("open at " + place, Probe.ARGUMENT, x, y -> y.open(0, place));
            numbersAre(x, 0, upTo(1, 16));
        }
    }

    /** "Is gone" is the session: its keys stay, and DO in it is 2. */
    private static void whatASessionHasDoneStaysWhenItIsGone() {
        Keeper x = new Keeper();
        x.open(0, 1);
        Probe.put(x, 0, 2, 1, 1, "k", "v");
        for (int place = 11; place <= 26; place++) {
            x.open(0, place);
        }
        numbersAre(x, 0, upTo(11, 26));
        Probe.due("DO in it", Probe.put(x, 0, 30, 1, 1, "k", "w"), 2);
        Probe.get(x, 0, "k");
        Probe.due("its key", Probe.result(x), "\1v");
    }

    /** "2: there is no such session": nothing is done, and none is used; but it has its place. */
    private static void noSuchSession() {
        Probe.Act base = x -> {
            history(x);
            x.open(0, 40);
            x.run(0, 41, 10, 6, 8);
            x.make(0, 1);
            x.open(1, 60);
        };
        for (int session : new int[] {9, 11, 39, 41, 60, 50, 0, -1, -10, Integer.MIN_VALUE, Integer.MAX_VALUE}) {
            for (int serial : new int[] {0, 1, 7, Integer.MAX_VALUE}) {
                Keeper x = new Keeper();
                base.on(x);
                String before = Probe.rowOf(x, 0);
                Probe.due("DO in " + session, Probe.remove(x, 0, 50, session, serial, "k"), 2);
                Probe.due("the result", Probe.result(x), "");
                Probe.due("place()", x.place(), 50);
                Probe.due("the greatest place", x.state(0, 4), 50);
                Probe.due("the row", Probe.rowOf(x, 0), before);
            }
        }
        Keeper x = new Keeper();
        base.on(x);
        Probe.due("DO in the last one of them", Probe.remove(x, 0, 50, 40, 1, "k"), 0);
    }

    /** "1: the serial is its own one: what comes of it is its answer and place, again", as often as it comes. */
    private static void theSerialIsItsOwn() {
        for (int serial : new int[] {1, 2, Integer.MAX_VALUE}) {
            Keeper x = new Keeper();
            x.open(0, 1);
            Probe.put(x, 0, 2, 1, serial, "k", "v");
            for (int place = 3; place < 6; place++) {
                Probe.due("it again", Probe.remove(x, 0, place, 1, serial, "k"), 1);
                Probe.due("its answer", Probe.result(x), "\0");
                Probe.due("its place", x.place(), 2);
                sessionIs(x, 0, 0, 1, place, serial, 2, 1);
                Probe.due("the key is there", x.state(0, 1), 1);
                Probe.due("the greatest place", x.state(0, 4), place);
            }
        }
    }

    /** "3: the serial is below that: nothing comes of it". */
    private static void theSerialIsBelow() {
        int[][] pairs = {{1, 0}, {2, 1}, {2, 0}, {1000, 999}, {Integer.MAX_VALUE, Integer.MAX_VALUE - 1},
            {Integer.MAX_VALUE, 0}};
        for (int[] pair : pairs) {
            Keeper x = new Keeper();
            x.open(0, 1);
            Probe.put(x, 0, 2, 1, pair[0], "k", "v");
            Probe.get(x, 0, "k");
            Probe.due("serial " + pair[1], Probe.remove(x, 0, 9, 1, pair[1], "k"), 3);
            Probe.due("the result", Probe.result(x), "");
            Probe.due("place()", x.place(), 9);
            sessionIs(x, 0, 0, 1, 9, pair[0], 2, 1);
            Probe.due("the key is there", x.state(0, 1), 1);
            Probe.due("the greatest place", x.state(0, 4), 9);
        }
    }

    /** "0: the operation is done, its answer and place come of it, and are, with the serial, the session's." */
    private static void theSerialIsAbove() {
        int[][] pairs = {{1, 2}, {1, 3}, {999, 1000}, {1, Integer.MAX_VALUE},
            {Integer.MAX_VALUE - 1, Integer.MAX_VALUE}};
        for (int[] pair : pairs) {
            Keeper x = new Keeper();
            x.open(0, 1);
            Probe.due("the first above 0", Probe.put(x, 0, 2, 1, pair[0], "k", "v"), 0);
            Probe.due("serial " + pair[1], Probe.remove(x, 0, 9, 1, pair[1], "k"), 0);
            Probe.due("the result", Probe.result(x), "\1v");
            Probe.due("place()", x.place(), 9);
            sessionIs(x, 0, 0, 1, 9, pair[1], 9, 2);
            Probe.due("the key is gone", x.state(0, 1), 0);
        }
    }
}

/** 'TOLD CLOSER': a test for each of its sentences. */
public final class EdgesToldCloserTest {
    public static void main(String[] args) {
        theExceptionNamedFirst();
        aCallThatThrowsChangesNothing();
        theTapeIsEmptyBehindRunAndReadThatThrow();
        eachOpenAndRunHasItsPlace();
        noneThatThrowsHasItsPlace();
        callsThatMakeAResult();
        callsThatMakeNoResult();
        aShapeBelow0();
        anExpectedValueOf100And101Bytes();
        anExpectedValueForSwapAlone();
        keysOfRunThatAreTooLong();
        keysOfReadThatAreTooLong();
        bytesBehindTheKey();
        bytesOfTheSecondKey();
        aNewSessionsSerialIs0();
        keysAreCountedWithTheNewValueInPlaceOfTheOld();
        unitsAreCountedWithTheNewValueInPlaceOfTheOld();
        swapAsksForUnitsOnlyWhenTheKeyHasTheExpectedValue();
        swapAsksForNoKeys();
        countWhenTheSecondIsNotAboveTheFirst();
        makeWithBothOne();
        tapeResultAndPlaceStayBehindMake();
        tapeResultAndPlaceStayBehindClear();
        sessionsGoWithClear();
        kCountsFrom0();
        theGreatestPlaceIs0AtFirst();
        Probe.end();
    }

    private static String bytes(int n) {
        return Probe.many('b', n);
    }

    /** Both machines have sessions and keys, the result is "\1" and a value, the tape is "kvw". */
    private static void history(Keeper x) {
        x.open(0, 10);
        Probe.put(x, 0, 11, 10, 5, "k", "value");
        x.open(0, 12);
        x.open(1, 3);
        Probe.put(x, 1, 4, 3, 1, "other", "of 1");
        Probe.get(x, 0, "k");
        Probe.feedText(x, "kvw");
    }

    private static void fullTape(Keeper x) {
        Probe.emptyTape(x);
        Probe.feedText(x, Probe.many('t', 300));
    }

    private static void runRefused(String tape, int shape) {
        Probe.refusedAndTapeEmpty("run with shape " + shape + " and a tape of " + tape.length(), Probe.ARGUMENT, x -> {
            history(x);
            Probe.emptyTape(x);
            Probe.feedText(x, tape);
        }, x -> x.run(0, 20, 10, 6, shape));
    }

    private static void runIs0(String tape, int shape) {
        Keeper x = new Keeper();
        history(x);
        Probe.emptyTape(x);
        Probe.feedText(x, tape);
        Probe.due("run with shape " + shape + " and a tape of " + tape.length(), x.run(0, 20, 10, 6, shape), 0);
    }

    private static void readRefused(String tape, int shape) {
        Probe.refusedAndTapeEmpty("read with shape " + shape + " and a tape of " + tape.length(), Probe.ARGUMENT, x -> {
            history(x);
            Probe.emptyTape(x);
            Probe.feedText(x, tape);
        }, x -> x.read(0, shape));
    }

    private static void readIs(String tape, int shape, String answer) {
        Keeper x = new Keeper();
        history(x);
        Probe.emptyTape(x);
        Probe.feedText(x, tape);
        Probe.due("read with shape " + shape + " and a tape of " + tape.length(), x.read(0, shape), answer.length());
        Probe.due("its answer", Probe.result(x), answer);
    }

    /** "Of several exceptions the one named first is thrown". */
    private static void theExceptionNamedFirst() {
        for (int n : new int[] {0, 9, -1, Integer.MAX_VALUE}) {
            Probe.refusedAndSame("feed of " + n + " on a full tape", Probe.ARGUMENT, EdgesToldCloserTest::fullTape,
                    x -> x.feed(1, n));
        }
        for (int machine : new int[] {-1, 2}) {
            for (int place : new int[] {0, 10, 1000001}) {
                Probe.refusedAndSame("open(" + machine + ", " + place + ")", Probe.INDEX, EdgesToldCloserTest::history,
                        x -> x.open(machine, place));
            }
            int[][] rest = {{12, 6, 8}, {20, -1, 8}, {20, 6, -1}, {20, 6, 3 + 8}, {20, 6, 8 * 33}, {20, 6, 2 + 8},
                {0, -1, -1}};
            for (int[] a : rest) {
                Probe.refusedAndTapeEmpty("run on " + machine, Probe.INDEX, EdgesToldCloserTest::history,
                        x -> x.run(machine, a[0], 10, a[1], a[2]));
            }
            for (int shape : new int[] {-1, 8, 3 + 8, 3 + 8 * 33, 6 + 8 * 3}) {
                Probe.refusedAndTapeEmpty("read on " + machine, Probe.INDEX, EdgesToldCloserTest::history,
                        x -> x.read(machine, shape));
            }
        }
    }

    /** "A call that throws changes nothing". */
    private static void aCallThatThrowsChangesNothing() {
        Probe.Act[] index = {
            x -> x.open(2, 20), x -> x.row(2), x -> x.row(-1), x -> x.make(0, 2), x -> x.make(2, 0), x -> x.make(2, 2),
            x -> x.clear(2), x -> x.clear(-1), x -> x.session(2, 0, 0), x -> x.session(0, 2, 0),
            x -> x.session(0, 0, 5), x -> x.session(0, -1, 0), x -> x.session(0, 0, -1), x -> x.key(2, 0, 0),
            x -> x.key(0, 1, 0),
            x -> x.key(0, 0, 2), x -> x.key(0, -1, 0), x -> x.key(0, 0, -1), x -> x.state(2, 0),
            x -> x.state(0, 5), x -> x.state(0, -1), x -> x.byteAt(6), x -> x.byteAt(-1),
        };
        for (int i = 0; i < index.length; i++) {
            Probe.refusedAndSame("call " + i, Probe.INDEX, EdgesToldCloserTest::history, index[i]);
        }
        Probe.Act[] argument = {x -> x.feed(1, 0), x -> x.feed(1, 9), x -> x.open(0, 12), x -> x.open(0, 1000001)};
        for (int i = 0; i < argument.length; i++) {
            Probe.refusedAndSame("call " + i, Probe.ARGUMENT, EdgesToldCloserTest::history, argument[i]);
        }
        Probe.refusedAndSame("feed", Probe.STATE, x -> {
            history(x);
            fullTape(x);
        }, x -> x.feed(1, 1));
    }

    /** "But that the tape is empty behind run() and read()": whatever they throw; what is fed then comes alone. */
    private static void theTapeIsEmptyBehindRunAndReadThatThrow() {
        Probe.Act[] acts = {
            x -> x.run(2, 20, 10, 6, 8), x -> x.run(0, 12, 10, 6, 8), x -> x.run(0, 1000001, 10, 6, 8),
            x -> x.run(0, 20, 10, -1, 8), x -> x.run(0, 20, 10, 6, -1), x -> x.run(0, 20, 10, 6, 2 + 8),
            x -> x.run(0, 20, 99, 6, 2 + 8), x -> x.read(2, 3 + 8 * 3), x -> x.read(0, -1), x -> x.read(0, 3 + 8),
            x -> x.read(0, 8 * 3),
        };
        for (int i = 0; i < acts.length; i++) {
            Class<? extends RuntimeException> want = i == 0 || i == 7 ? Probe.INDEX : Probe.ARGUMENT;
            Probe.refusedAndTapeEmpty("call " + i, want, EdgesToldCloserTest::history, acts[i]);
            Keeper x = new Keeper();
            history(x);
            Probe.thrownBy(x, acts[i]);
            Probe.due("the next feed", x.feed('k', 1), 1);
            Probe.due("GET of it", x.read(0, 3 + 8), 6);
            Probe.due("the tape behind that", x.feed('k', 1), 1);
            Probe.due("run with it", x.run(0, 20, 10, 6, 2 + 8), 0);
            Probe.due("its answer", Probe.result(x), "\1value");
            Probe.due("the tape behind that", x.feed('k', 1), 1);
        }
    }

    private static void placeIsTaken(Keeper x, int place) {
        Probe.due("the greatest place", x.state(0, 4), place);
        Probe.refused("open at it", Probe.ARGUMENT, x, y -> y.open(0, place));
        Probe.refused("run at it", Probe.ARGUMENT, x, y -> Probe.put(y, 0, place, 10, 9, "k", ""));
        Probe.due("DO at the next one", Probe.put(x, 0, place + 1, 99, 9, "k", ""), 2);
    }

    /** "Each open() and run() that does not throw has its place, whatever it answers". */
    private static void eachOpenAndRunHasItsPlace() {
        int[][] runs = {{10, 6, 0}, {10, 5, 1}, {99, 6, 2}, {10, 4, 3}};
        for (int[] a : runs) {
            Keeper x = new Keeper();
            history(x);
            Probe.due("run", x.run(0, 50, a[0], a[1], 8), a[2]);
            placeIsTaken(x, 50);
        }
        Keeper x = new Keeper();
        history(x);
        x.open(0, 50);
        placeIsTaken(x, 50);
        Keeper y = new Keeper();
        for (int place = 1; place <= 17; place++) {
            y.open(0, place);
        }
        placeIsTaken(y, 17);
        Desk d = Desk.withKeys(128);
        Probe.put(d.x, 0, 500, 1, 500, "new", "");
        Probe.due("the answer", Probe.result(d.x), "\2");
        placeIsTaken(d.x, 500);
    }

    /** One that throws has none: its place is still free. */
    private static void noneThatThrowsHasItsPlace() {
        Probe.Act[] acts = {
            x -> x.run(0, 50, 10, -1, 8), x -> x.run(0, 50, 10, 6, -1), x -> x.run(0, 50, 10, 6, 2 + 8),
            x -> x.run(2, 50, 10, 6, 8), x -> x.open(2, 50), x -> x.run(0, 1000001, 10, 6, 8),
            x -> x.open(0, 1000001),
        };
        for (Probe.Act act : acts) {
            Keeper x = new Keeper();
            history(x);
            Probe.thrownBy(x, act);
            Probe.due("the greatest place", x.state(0, 4), 12);
            Probe.due("place()", x.place(), 4);
            Probe.due("open at the next one", x.open(0, 13), 3);
        }
    }

    private static void resultBehind(String what, Probe.Act act, String want) {
        Keeper x = new Keeper();
        history(x);
        act.on(x);
        Probe.due("the result behind " + what, Probe.result(x), want);
    }

    /** "Run(), read(), row(), key() .. make a result", an empty one, too. */
    private static void callsThatMakeAResult() {
        resultBehind("0", x -> x.run(0, 20, 10, 6, 8), "\1value");
        resultBehind("1", x -> x.run(0, 20, 10, 5, 8), "\0");
        resultBehind("1 of a new session", x -> x.run(0, 20, 12, 0, 8), "");
        resultBehind("2", x -> x.run(0, 20, 99, 5, 8), "");
        resultBehind("3", x -> x.run(0, 20, 10, 4, 8), "");
        resultBehind("GET", x -> x.read(0, 3 + 8 * 3), "\0");
        resultBehind("COUNT", x -> x.read(0, 4 + 8), "\1\0");
        resultBehind("NEXT", x -> x.read(1, 5 + 8 * 3), "\1\5otherof 1");
        resultBehind("row()", x -> {
            x.clear(0);
            x.row(0);
        }, "\0\0\0\0\0\0\0\0");
        resultBehind("key() of a key", x -> x.key(1, 0, 0), "other");
        resultBehind("key() of a value", x -> x.key(1, 0, 1), "of 1");
        resultBehind("key() of an empty value", x -> {
            x.run(0, 20, 10, 6, 8 * 3);
            x.key(0, 1, 1);
        }, "");
    }

    /** ".. alone make a result": behind all other calls it is what it was, also when they throw. */
    private static void callsThatMakeNoResult() {
        Probe.Act[] acts = {
            x -> x.feed(1, 8), x -> x.open(0, 20), x -> x.open(1, 20), x -> x.make(0, 1), x -> x.make(1, 0),
            x -> x.make(0, 0), x -> x.clear(0), x -> x.clear(1), x -> x.session(0, 0, 4), x -> x.state(0, 3),
            x -> x.place(), x -> x.byteAt(0), x -> x.feed(1, 9), x -> x.open(0, 1), x -> x.run(0, 20, 10, 6, -1),
            x -> x.run(2, 20, 10, 6, 8), x -> x.read(0, -1), x -> x.read(2, 3 + 8), x -> x.row(2), x -> x.make(0, 2),
            x -> x.clear(2), x -> x.session(0, 9, 0), x -> x.key(0, 1, 0), x -> x.key(0, 0, 2), x -> x.state(0, 5),
            x -> x.byteAt(6),
        };
        for (int i = 0; i < acts.length; i++) {
            Probe.Act act = acts[i];
            resultBehind("call " + i, x -> Probe.thrownBy(x, act), "\1value");
        }
    }

    /** "A shape below 0": though all but its sign would be right. */
    private static void aShapeBelow0() {
        for (int kind = 0; kind < 8; kind++) {
            for (String tape : new String[] {"", "k", "kk", "kkk"}) {
                for (int shape : new int[] {kind - 8, Integer.MIN_VALUE + kind + 8, Integer.MIN_VALUE + kind,
                    kind + 8 - 512, kind + 8 - 1024, kind + 8 - 65536}) {
                    runRefused(tape, shape);
                    readRefused(tape, shape);
                }
            }
        }
        runIs0("k", 8);
        readIs("k", 3 + 8, "\1value");
    }

    /** "An expected value of more than 100 bytes". */
    private static void anExpectedValueOf100And101Bytes() {
        for (int value : new int[] {0, 1, 100}) {
            runIs0(bytes(1 + 100 + value), Probe.SWAP + 8 + 512 * 100);
            runIs0(bytes(32 + 100 + value), Probe.SWAP + 8 * 32 + 512 * 100);
            runRefused(bytes(1 + 101 + value), Probe.SWAP + 8 + 512 * 101);
            runRefused(bytes(32 + 101 + value), Probe.SWAP + 8 * 32 + 512 * 101);
            runRefused(bytes(32 + 128 + value), Probe.SWAP + 8 * 32 + 512 * 128);
        }
        for (int bit = 128; bit > 0 && bit <= 1 << 21; bit *= 2) {
            runRefused("kv", Probe.SWAP + 8 + 512 * bit);
            runRefused("kv", Probe.SWAP + 8 + 512 * (bit + 1));
        }
    }

    /** "(0 but for SWAP)": an expected value of PUT and REMOVE, whatever its size. */
    private static void anExpectedValueForSwapAlone() {
        for (int size = 1; size > 0 && size <= 1 << 21; size *= 2) {
            for (int kind : new int[] {Probe.PUT, Probe.REMOVE}) {
                runRefused("k", kind + 8 + 512 * size);
                runRefused(bytes(Math.min(300, 1 + size)), kind + 8 + 512 * size);
            }
        }
        runRefused(bytes(1 + 1 + 1), Probe.PUT + 8 + 512);
        runIs0(bytes(1 + 1 + 1), Probe.PUT + 8);
        runIs0(bytes(1 + 1 + 1), Probe.SWAP + 8 + 512);
        runIs0(bytes(1), Probe.REMOVE + 8);
    }

    /** "Sizes beyond those told": of the 63 bytes of a key for which run() has bits, 33 are too many. */
    private static void keysOfRunThatAreTooLong() {
        for (int size = 33; size < 64; size++) {
            for (int kind = Probe.PUT; kind <= Probe.REMOVE; kind++) {
                runRefused(bytes(size), kind + 8 * size);
            }
        }
        runRefused(bytes(32), 8 * 33);
        runIs0(bytes(32), 8 * 32);
        runIs0(bytes(32), Probe.SWAP + 8 * 32);
        runIs0(bytes(32), Probe.REMOVE + 8 * 32);
        runIs0(bytes(33), Probe.SWAP + 8 * 32 + 512);
    }

    /** "Of read() all bits from 8 on are the key's": none of them is left out. */
    private static void keysOfReadThatAreTooLong() {
        for (int kind = Probe.GET; kind <= Probe.NEXT; kind++) {
            int behind = kind == Probe.COUNT ? 1 : 0;
            for (int size : new int[] {33, 63, 64, 65, 96, 128, 256, 299}) {
                readRefused(bytes(size + behind), kind + 8 * size);
            }
            for (int bit = 512; bit > 0; bit *= 2) {
                readRefused(bytes(1 + behind), kind + 8 + bit);
                readRefused(bytes(32 + behind), kind + 8 * 32 + bit);
            }
        }
        readIs(bytes(32), Probe.GET + 8 * 32, "\0");
        readIs(bytes(33), Probe.COUNT + 8 * 32, "\0\0");
        readIs(bytes(32), Probe.NEXT + 8 * 32, "\1\1kvalue");
    }

    /** "Bytes behind what is asked for (GET, NEXT: the key ..)", and too few. */
    private static void bytesBehindTheKey() {
        for (int kind : new int[] {Probe.GET, Probe.NEXT}) {
            for (int size : new int[] {1, 2, 31, 32}) {
                readRefused(bytes(size + 1), kind + 8 * size);
                readRefused(bytes(size - 1), kind + 8 * size);
                readRefused(bytes(300), kind + 8 * size);
            }
        }
        readIs("k", Probe.GET + 8, "\1value");
        readIs("kk", Probe.GET + 16, "\0");
        readIs("k", Probe.NEXT + 8, "\1\1kvalue");
        readIs("kk", Probe.NEXT + 16, "\0");
        for (int size : new int[] {1, 2, 31, 32}) {
            runRefused(bytes(size + 1), Probe.REMOVE + 8 * size);
            runRefused(bytes(size - 1), Probe.REMOVE + 8 * size);
            runRefused(bytes(size - 1), Probe.PUT + 8 * size);
            runRefused(bytes(size + 4), Probe.SWAP + 8 * size + 512 * 5);
            runIs0(bytes(size), Probe.REMOVE + 8 * size);
            runIs0(bytes(size), Probe.PUT + 8 * size);
            runIs0(bytes(size + 5), Probe.SWAP + 8 * size + 512 * 5);
        }
    }

    /** "(COUNT: a second key of 1 to 32)". */
    private static void bytesOfTheSecondKey() {
        for (int size : new int[] {1, 2, 31, 32}) {
            readRefused(bytes(size), Probe.COUNT + 8 * size);
            readRefused(bytes(size - 1), Probe.COUNT + 8 * size);
            readRefused(bytes(size + 33), Probe.COUNT + 8 * size);
            readRefused(bytes(300), Probe.COUNT + 8 * size);
            readIs(bytes(size) + "z", Probe.COUNT + 8 * size, "\1\0");
            readIs(bytes(size) + Probe.many('z', 32), Probe.COUNT + 8 * size, "\1\0");
            readIs(bytes(size) + "k", Probe.COUNT + 8 * size, "\0\0");
            readIs(bytes(size) + "k" + Probe.many('\0', 31), Probe.COUNT + 8 * size, "\1\0");
        }
    }

    /** "A new session's serial is 0, so DO with 0 is 1: the empty answer, the place of OPEN." */
    private static void aNewSessionsSerialIs0() {
        Keeper x = new Keeper();
        history(x);
        Probe.due("DO with 0", x.run(0, 20, 12, 0, 8), 1);
        Probe.due("the result", Probe.result(x), "");
        Probe.due("place()", x.place(), 12);
        Probe.get(x, 0, "k");
        Probe.due("nothing was put", Probe.result(x), "\1value");
        int[] want = {12, 20, 0, 12, 0};
        for (int what = 0; what < want.length; what++) {
            Probe.due("session(0, 1, " + what + ")", x.session(0, 1, what), want[what]);
        }
        Probe.due("DO with 0 again", Probe.remove(x, 0, 21, 12, 0, "k"), 1);
        Probe.due("place()", x.place(), 12);
        Probe.due("DO with 1", Probe.remove(x, 0, 22, 12, 1, "k"), 0);
        Probe.due("place()", x.place(), 22);
        Probe.due("DO with 0 is below then", Probe.remove(x, 0, 23, 12, 0, "k"), 3);
        Probe.due("place()", x.place(), 23);
    }

    /** "Keys .. are counted as they would be, with the new value in place of the old one": with 128. */
    private static void keysAreCountedWithTheNewValueInPlaceOfTheOld() {
        Desk d = Desk.withKeys(128);
        d.put("\0", "v", "\1");
        d.put("\u007f", bytes(16), "\1");
        d.swap("\u0040", "", "w", "\1");
        d.counts(128, 129);
        d.put("\u0080", "", "\2");
        d.get("\0", "\1v");
        d.get("\u007f", "\1" + bytes(16));
        d.get("\u0040", "\1w");
    }

    /** ".. and units": with 700, a value in place of one that takes as many or more units is put. */
    private static void unitsAreCountedWithTheNewValueInPlaceOfTheOld() {
        Desk d = Desk.with700Units();
        d.put("x", Probe.many('c', 100), "\1" + bytes(100));
        d.counts(78, 700);
        d.swap("x", Probe.many('c', 100), Probe.many('d', 96), "\1");
        d.counts(78, 700);
        d.put("x", "", "\1" + Probe.many('d', 96));
        d.counts(78, 694);
        d.swap("x", "", bytes(100), "\1");
        d.counts(78, 700);
        d.swap("x", bytes(100), bytes(15), "\1");
        d.counts(78, 694);
        d.put("x", bytes(100), "\1" + bytes(15));
        d.counts(78, 700);
    }

    /** "SWAP asks for them only when the key has the expected value": else it is 0 or 3, not 2. */
    private static void swapAsksForUnitsOnlyWhenTheKeyHasTheExpectedValue() {
        Desk d = Desk.with700Units();
        d.put("x", bytes(95), "\1" + bytes(100));
        d.put("y", "v", "\0");
        d.counts(79, 700);
        d.swap("y", "w", bytes(100), "\0v");
        d.swap("y", "", bytes(100), "\0v");
        d.swap("z", "v", bytes(100), "\3");
        d.swap("z", "", "", "\3");
        d.swap("y", "v", bytes(100), "\2");
        d.counts(79, 700);
        d.get("y", "\1v");
    }

    /** With 128 keys, too, SWAP of a key that there is not is 3, and of one that there is 1. */
    private static void swapAsksForNoKeys() {
        Desk d = Desk.withKeys(128);
        d.swap("new", "", "", "\3");
        d.swap("new", "v", "w", "\3");
        d.swap("\5", "v", "w", "\0");
        d.swap("\5", "", "w", "\1");
        d.counts(128, 128);
    }

    /** "COUNT is 0 when the second key is not above the first": the same, one below it, its beginning. */
    private static void countWhenTheSecondIsNotAboveTheFirst() {
        Desk d = new Desk();
        for (String key : new String[] {"a", "b", "bb", "c"}) {
            d.put(key, "");
        }
        d.count("b", "b", 0);
        d.count("b", "b\0", 1);
        d.count("c", "a", 0);
        d.count("z", "\0", 0);
        d.count("bb", "b", 0);
        d.count("b\0", "b", 0);
        d.count("\u00ff", "a", 0);
        d.count("a", "\u00ff", 4);
        d.count("\u0080", "\u007f", 0);
    }

    /** "Of make() with both one: false". */
    private static void makeWithBothOne() {
        for (int machine = 0; machine < 2; machine++) {
            Keeper x = new Keeper();
            Keeper y = new Keeper();
            history(x);
            history(y);
            Probe.due("make of one with itself", x.make(machine, machine), false);
            Probe.due("the picture behind it", Probe.picture(x), Probe.picture(y));
        }
        Probe.due("make of a new one with itself", new Keeper().make(1, 1), false);
    }

    private static void tapeResultAndPlaceStay(String what, Probe.Act act) {
        Keeper x = new Keeper();
        history(x);
        act.on(x);
        Probe.due("the result behind " + what, Probe.result(x), "\1value");
        Probe.due("place() behind " + what, x.place(), 4);
        x.open(0, 500);
        Probe.due("the tape behind " + what, x.feed('x', 1), 4);
        Probe.due("run with the tape", x.run(0, 501, 500, 1, 8 * 4), 0);
        Probe.feedText(x, "kvwx");
        Probe.due("GET of the tape's bytes", x.read(0, 3 + 8 * 4), 1);
        Probe.due("they are there", Probe.result(x), "\1");
    }

    /** "The tape, the result, place() stay". */
    private static void tapeResultAndPlaceStayBehindMake() {
        tapeResultAndPlaceStay("make(0, 1)", x -> x.make(0, 1));
        tapeResultAndPlaceStay("make(1, 0)", x -> x.make(1, 0));
        tapeResultAndPlaceStay("make(0, 0)", x -> x.make(0, 0));
        tapeResultAndPlaceStay("make(1, 1)", x -> x.make(1, 1));
    }

    /** "As behind clear()". */
    private static void tapeResultAndPlaceStayBehindClear() {
        tapeResultAndPlaceStay("clear(0)", x -> x.clear(0));
        tapeResultAndPlaceStay("clear(1)", x -> x.clear(1));
    }

    /** "Clear(), whose sessions go, too". */
    private static void sessionsGoWithClear() {
        Keeper x = new Keeper();
        history(x);
        Probe.due("clear(0)", x.clear(0), 1);
        Probe.due("sessions", x.state(0, 0), 0);
        Probe.refused("the first session", Probe.INDEX, x, y -> y.session(0, 0, 0));
        Probe.due("DO in one of them", x.run(0, 20, 10, 5, 8), 2);
        Probe.due("sessions of the other", x.state(1, 0), 1);
        Probe.due("open", x.open(0, 21), 1);
    }

    /** "K counts from 0": of one there is 0, and neither -1 nor 1. */
    private static void kCountsFrom0() {
        Keeper x = new Keeper();
        history(x);
        Probe.due("session 0", x.session(1, 0, 0), 3);
        Probe.due("key 0", x.key(1, 0, 0), 5);
        for (int k : new int[] {-1, 1}) {
            Probe.refused("session " + k, Probe.INDEX, x, y -> y.session(1, k, 0));
            Probe.refused("key " + k, Probe.INDEX, x, y -> y.key(1, k, 0));
        }
        Probe.due("session 1 of two", x.session(0, 1, 0), 12);
    }

    /** "State(.., 4) is 0 at first": and it stays so while nothing is done. */
    private static void theGreatestPlaceIs0AtFirst() {
        for (int machine = 0; machine < 2; machine++) {
            int m = machine;
            Keeper x = new Keeper();
            Probe.due("state(.., 4)", x.state(m, 4), 0);
            x.clear(m);
            x.make(1 - m, m);
            Probe.get(x, m, "k");
            Probe.thrownBy(x, y -> y.open(m, 0));
            x.open(1 - m, 7);
            Probe.due("state(.., 4)", x.state(m, 4), 0);
            x.open(m, 1);
            Probe.due("state(.., 4)", x.state(m, 4), 1);
        }
    }
}

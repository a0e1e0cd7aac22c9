/** 'Terms', OPERATIONS and READING: a test for each of their answers. */
public final class EdgesOfOperationsTest {
    public static void main(String[] args) {
        putAnswers1AndTheValueBefore();
        putAnswers0WhenThereWasNone();
        putAnswers2WhenKeysWouldBeTooMany();
        putAnswers2WhenUnitsWouldBeTooMany();
        swapAnswers1WhenTheKeyHasTheExpectedValue();
        swapAnswers2WhenUnitsWouldBeTooMany();
        swapAnswers0WhenItHasAnother();
        swapAnswers3WhenThereIsNone();
        removeAnswers1AndTheValueBefore();
        removeAnswers0();
        getAnswers1AndTheValue();
        getAnswers0();
        countIsNotBelowTheFirst();
        countIsBelowTheSecond();
        countHasTwoBytes();
        nextIsTheLeastNotBelow();
        nextAnswers0();
        Probe.end();
    }

    private static String bytes(int n) {
        return Probe.many('b', n);
    }

    /** "PUT a key with a value: the answer is 1 and the value before": the shortest and the longest one. */
    private static void putAnswers1AndTheValueBefore() {
        for (int size : new int[] {0, 1, 100}) {
            Desk d = new Desk();
            d.put("k", bytes(size), "\0");
            d.put("k", "new", "\1" + bytes(size));
            d.put("k", "new", "\1new");
            d.put("k", "", "\1new");
            d.put("k", bytes(size), "\1");
            d.counts(1, size == 100 ? 7 : 1);
            d.keyIs(0, "k", bytes(size));
        }
    }

    /** "Or 0 when there was none": never, or no longer; a key that begins another or is begun by it is not it. */
    private static void putAnswers0WhenThereWasNone() {
        Desk d = new Desk();
        d.put("kk", "v", "\0");
        d.put("k", "w", "\0");
        d.put("kk\0", "", "\0");
        d.counts(3, 3);
        d.remove("kk", "\1v");
        d.put("kk", "x", "\0");
        d.keyIs(0, "k", "w");
        d.keyIs(1, "kk", "x");
        d.keyIs(2, "kk\0", "");
    }

    /** "2, and nothing is done, when keys .. would be too many", though it is the session's answer then. */
    private static void putAnswers2WhenKeysWouldBeTooMany() {
        Desk d = Desk.withKeys(128);
        Probe.due("a 129th key", Probe.put(d.x, 0, 200, 1, 200, "new", "v"), 0);
        Probe.due("its answer", Probe.result(d.x), "\2");
        Probe.due("place()", d.x.place(), 200);
        int[] session = {1, 200, 200, 200, 1};
        for (int what = 0; what < session.length; what++) {
            Probe.due("session(0, 0, " + what + ")", d.x.session(0, 0, what), session[what]);
        }
        d.counts(128, 128);
        d.get("new", "\0");
        Probe.due("it again", Probe.put(d.x, 0, 201, 1, 200, "new", "v"), 1);
        Probe.due("its answer", Probe.result(d.x), "\2");
        Probe.remove(d.x, 0, 202, 1, 201, "\5");
        Probe.due("below", Probe.put(d.x, 0, 203, 1, 200, "new", "v"), 3);
        Probe.due("with a new serial", Probe.put(d.x, 0, 204, 1, 202, "new", "v"), 0);
        Probe.due("its answer", Probe.result(d.x), "\0");
        d.counts(128, 128);
    }

    /** "2, and nothing is done, when .. units would be too many": for a new key and for a longer value. */
    private static void putAnswers2WhenUnitsWouldBeTooMany() {
        Desk d = Desk.with700Units();
        d.put("y", "", "\2");
        d.get("y", "\0");
        d.counts(78, 700);
        d.put("x", bytes(95), "\1" + bytes(100));
        d.put("y", "", "\0");
        d.counts(79, 700);
        d.put("x", bytes(96), "\2");
        d.get("x", "\1" + bytes(95));
        d.counts(79, 700);
    }

    /** "SWAP: when the key has the expected value, it gets the new one: 1": the shortest and the longest values. */
    private static void swapAnswers1WhenTheKeyHasTheExpectedValue() {
        String[] values = {"", "v", bytes(100)};
        for (String expected : values) {
            for (String value : values) {
                Desk d = new Desk();
                d.put("k", expected, "\0");
                d.swap("k", expected, value, "\1");
                d.keyIs(0, "k", value);
                d.counts(1, value.length() == 100 ? 7 : 1);
            }
        }
    }

    /** "(2 as for PUT)": nothing is done. */
    private static void swapAnswers2WhenUnitsWouldBeTooMany() {
        Desk d = Desk.with700Units();
        d.put("x", bytes(95), "\1" + bytes(100));
        d.put("y", "v", "\0");
        d.counts(79, 700);
        d.swap("y", "v", bytes(16), "\2");
        d.get("y", "\1v");
        d.counts(79, 700);
        d.swap("y", "v", bytes(15), "\1");
        d.counts(79, 700);
        d.get("y", "\1" + bytes(15));
    }

    /** "When it has another: 0 and that": one that differs in a byte, a shorter, a longer one. */
    private static void swapAnswers0WhenItHasAnother() {
        String[][] pairs = {{"v", "w"}, {"v", ""}, {"", "v"}, {"v", "vv"}, {"vv", "v"}, {"v", "v\0"}, {"", "\0"},
            {"\0", ""}, {bytes(99) + "x", bytes(100)}, {"x" + bytes(99), bytes(100)}, {bytes(99), bytes(100)},
            {bytes(100), bytes(99)}, {"\u0080", "\0"}, {"\u00ff", "\u007f"}};
        for (String[] pair : pairs) {
            Desk d = new Desk();
            d.put("k", pair[0], "\0");
            d.swap("k", pair[1], "new", "\0" + pair[0]);
            d.keyIs(0, "k", pair[0]);
        }
    }

    /** "3 when there is none", whatever is expected. */
    private static void swapAnswers3WhenThereIsNone() {
        Desk d = new Desk();
        d.swap("k", "", "", "\3");
        d.put("kk", "", "\0");
        for (String key : new String[] {"k", "kkk", "kj", "kk\0", "\0", "\u00ff"}) {
            d.swap(key, "", "v", "\3");
            d.swap(key, "v", "", "\3");
        }
        d.counts(1, 1);
        d.keyIs(0, "kk", "");
        d.remove("kk", "\1");
        d.swap("kk", "", "v", "\3");
        d.counts(0, 0);
    }

    /** "REMOVE: 1 and the value before": the first, the middle, the last and the only key. */
    private static void removeAnswers1AndTheValueBefore() {
        Desk d = new Desk();
        d.put("a", "", "\0");
        d.put("b", bytes(100), "\0");
        d.put("c", "v", "\0");
        d.put("d", "w", "\0");
        d.remove("a", "\1");
        d.keyIs(0, "b", bytes(100));
        d.remove("d", "\1w");
        d.counts(2, 8);
        d.remove("b", "\1" + bytes(100));
        d.keyIs(0, "c", "v");
        d.remove("c", "\1v");
        d.counts(0, 0);
    }

    /** "Or 0": of none at all, of a neighbour, and a second time. */
    private static void removeAnswers0() {
        Desk d = new Desk();
        d.remove("k", "\0");
        d.put("kk", "v", "\0");
        for (String key : new String[] {"k", "kkk", "kk\0", "kj", "kl", "\0", "\u00ff"}) {
            d.remove(key, "\0");
        }
        d.counts(1, 1);
        d.remove("kk", "\1v");
        d.remove("kk", "\0");
        d.counts(0, 0);
    }

    /** "GET a key: 1 and its value": the shortest and the longest one, of the first and of the last key. */
    private static void getAnswers1AndTheValue() {
        Desk d = new Desk();
        d.put("\0", "", "\0");
        d.put("k", bytes(100), "\0");
        d.put(Probe.many('\u00ff', 32), "\0", "\0");
        d.get("\0", "\1");
        d.get("k", "\1" + bytes(100));
        d.get(Probe.many('\u00ff', 32), "\1\0");
    }

    /** "Or 0". */
    private static void getAnswers0() {
        Desk d = new Desk();
        d.get("k", "\0");
        d.put("kk", "v", "\0");
        for (String key : new String[] {"k", "kkk", "kk\0", "kj", "kl", "\0", "\u00ff"}) {
            d.get(key, "\0");
        }
        d.remove("kk", "\1v");
        d.get("kk", "\0");
    }

    /** "COUNT: how many keys are not below the first": one that is the first counts. */
    private static void countIsNotBelowTheFirst() {
        Desk d = new Desk();
        for (String key : new String[] {"b", "bb", "d"}) {
            d.put(key, "", "\0");
        }
        d.count("a", "z", 3);
        d.count("b", "z", 3);
        d.count("b\0", "z", 2);
        d.count("ba", "z", 2);
        d.count("bb", "z", 2);
        d.count("bb\0", "z", 1);
        d.count("d", "z", 1);
        d.count("d\0", "z", 0);
        d.count("y", "z", 0);
    }

    /** "And below the second one": one that is the second does not count. */
    private static void countIsBelowTheSecond() {
        Desk d = new Desk();
        for (String key : new String[] {"b", "bb", "d"}) {
            d.put(key, "", "\0");
        }
        d.count("\0", "a", 0);
        d.count("\0", "b", 0);
        d.count("\0", "b\0", 1);
        d.count("\0", "bb", 1);
        d.count("\0", "bb\0", 2);
        d.count("\0", "c", 2);
        d.count("\0", "d", 2);
        d.count("\0", "d\0", 3);
        d.count("\0", "\u00ff", 3);
    }

    /** "Two bytes, the lower first": of none, of one and of as many as there can be. */
    private static void countHasTwoBytes() {
        Desk d = Desk.withKeys(128);
        d.count("\u0080", "\u00ff", 0);
        d.count("\0", "\1", 1);
        d.count("\0", "\u007f", 127);
        d.count("\0", "\u0080", 128);
        Probe.due("bytes", d.x.byteAt(0) + 256 * d.x.byteAt(1), 128);
    }

    /** "NEXT: of the least key not below one: 1, its size in a byte, it, its value": the shortest and the longest. */
    private static void nextIsTheLeastNotBelow() {
        Desk d = new Desk();
        d.put("b", "", "\0");
        d.put("bb", "v", "\0");
        d.put(Probe.many('d', 32), bytes(100), "\0");
        d.next("\0", "\1\1b");
        d.next("a\u00ff", "\1\1b");
        d.next("b", "\1\1b");
        d.next("b\0", "\1\2bbv");
        d.next("bb", "\1\2bbv");
        d.next(Probe.many('d', 31), "\1\u0020" + Probe.many('d', 32) + bytes(100));
        d.next(Probe.many('d', 32), "\1\u0020" + Probe.many('d', 32) + bytes(100));
    }

    /** "Or 0", when all are below, and when there is none. */
    private static void nextAnswers0() {
        Desk d = new Desk();
        d.next("\0", "\0");
        d.put("b", "v", "\0");
        d.put("dd", "v", "\0");
        d.next("dd\0", "\0");
        d.next("de", "\0");
        d.next("e", "\0");
        d.next("\u00ff", "\0");
        d.remove("dd", "\1v");
        d.next("b\0", "\0");
        d.next("b", "\1\1bv");
    }
}

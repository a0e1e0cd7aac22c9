import java.nio.charset.StandardCharsets;

/** What the tests share: notes of what is not as due, and calls with rows of bytes told as texts (a character a byte). */
final class Probe {
    interface Act {
        void on(TwinKeepers x);
    }

    static final int PUT = 0;
    static final int SWAP = 1;
    static final int REMOVE = 2;
    static final int GET = 3;
    static final int COUNT = 4;
    static final int NEXT = 5;

    static final Class<? extends RuntimeException> ARGUMENT = IllegalArgumentException.class;
    static final Class<? extends RuntimeException> STATE = IllegalStateException.class;
    static final Class<? extends RuntimeException> INDEX = IndexOutOfBoundsException.class;

    private static int checks = 0;
    private static int wrong = 0;

    private Probe() {
    }

    static void due(String what, Object got, Object want) {
        checks++;
        if (!want.equals(got)) {
            wrong++;
            System.out.println(what + " answered " + shown(got) + ", due is " + shown(want));
        }
    }

    /** The exception is of the very class that is due. */
    static void refused(String what, Class<? extends RuntimeException> want, TwinKeepers x, Act act) {
        due(what, thrownBy(x, act), want.getSimpleName());
    }

    /** The call throws as due, and an object that had it is then like one that had it not. */
    static void refusedAndSame(String what, Class<? extends RuntimeException> want, Act history, Act act) {
        refusedAndLike(what, want, history, act, x -> { });
    }

    /** The call throws as due, and an object that had it is then like one with an emptied tape. */
    static void refusedAndTapeEmpty(String what, Class<? extends RuntimeException> want, Act history, Act act) {
        refusedAndLike(what, want, history, act, Probe::emptyTape);
    }

    private static void refusedAndLike(String what, Class<? extends RuntimeException> want, Act history, Act act,
            Act instead) {
        TwinKeepers had = new TwinKeepers();
        TwinKeepers hadNot = new TwinKeepers();
        history.on(had);
        history.on(hadNot);
        refused(what, want, had, act);
        instead.on(hadNot);
        due("the picture behind " + what, picture(had), picture(hadNot));
    }

    static void emptyTape(TwinKeepers x) {
        thrownBy(x, y -> y.read(0, -1));
    }

    static String thrownBy(TwinKeepers x, Act act) {
        try {
            act.on(x);
        } catch (RuntimeException e) {
            return named(e);
        }
        return "nothing";
    }

    /** The exception's name; that of one which the program has not thrown itself is marked, so that none is due. */
    static String named(RuntimeException e) {
        StackTraceElement[] trace = e.getStackTrace();
        boolean own = trace.length > 0 && trace[0].getClassName().startsWith("TwinKeepers");
        return e.getClass().getSimpleName() + (own ? "" : " of the machine");
    }

    static void end() {
        System.out.println(wrong == 0 ? checks + " answers are as due" : wrong + " answers are not as due");
        if (wrong != 0) {
            System.exit(1);
        }
    }

    static String shown(Object o) {
        StringBuilder told = new StringBuilder();
        for (char c : String.valueOf(o).toCharArray()) {
            if (c > 31 && c < 127) {
                told.append(c);
            } else {
                told.append(String.format("\\%02x", (int) c));
            }
        }
        return told.toString();
    }

    static void feedText(TwinKeepers x, String text) {
        byte[] bytes = text.getBytes(StandardCharsets.ISO_8859_1);
        for (int from = 0; from < bytes.length; from += 8) {
            int n = Math.min(8, bytes.length - from);
            long eight = 0;
            for (int i = 0; i < n; i++) {
                eight |= (bytes[from + i] & 255L) << (8 * i);
            }
            x.feed(eight, n);
        }
    }

    static int shape(int operation, String key, String expected) {
        return operation + 8 * key.length() + 512 * expected.length();
    }

    static int put(TwinKeepers x, int machine, int place, int session, int serial, String key, String value) {
        feedText(x, key + value);
        return x.run(machine, place, session, serial, shape(PUT, key, ""));
    }

    static int swap(TwinKeepers x, int machine, int place, int session, int serial, String key, String... values) {
        feedText(x, key + values[0] + values[1]);
        return x.run(machine, place, session, serial, shape(SWAP, key, values[0]));
    }

    static int remove(TwinKeepers x, int machine, int place, int session, int serial, String key) {
        feedText(x, key);
        return x.run(machine, place, session, serial, shape(REMOVE, key, ""));
    }

    static int get(TwinKeepers x, int machine, String key) {
        feedText(x, key);
        return x.read(machine, shape(GET, key, ""));
    }

    static int count(TwinKeepers x, int machine, String low, String high) {
        feedText(x, low + high);
        return x.read(machine, shape(COUNT, low, ""));
    }

    static int next(TwinKeepers x, int machine, String key) {
        feedText(x, key);
        return x.read(machine, shape(NEXT, key, ""));
    }

    static String result(TwinKeepers x) {
        StringBuilder told = new StringBuilder();
        for (int i = 0; i < 20000; i++) {
            try {
                told.append((char) x.byteAt(i));
            } catch (IndexOutOfBoundsException e) {
                return told.toString();
            }
        }
        return "no end";
    }

    static String rowOf(TwinKeepers x, int machine) {
        x.row(machine);
        return result(x);
    }

    /** All that calls can tell, at the cost of the result and of the tape. */
    static String picture(TwinKeepers x) {
        StringBuilder told = new StringBuilder();
        told.append("result ").append(result(x)).append(" place ").append(x.place());
        for (int machine = 0; machine < 2; machine++) {
            for (int what = 0; what < 5; what++) {
                told.append(' ').append(x.state(machine, what));
            }
            told.append(" row ").append(rowOf(x, machine));
        }
        return told.append(" tape ").append(tapeOf(x)).toString();
    }

    private static int tapeOf(TwinKeepers x) {
        try {
            return x.feed(0, 1) - 1;
        } catch (IllegalStateException e) {
            return 300;
        }
    }

    /** A number as a row tells it. */
    static String number(int value, int width) {
        StringBuilder told = new StringBuilder();
        for (int i = 0; i < width; i++) {
            told.append((char) ((value >>> (8 * i)) & 255));
        }
        return told.toString();
    }

    static String many(char c, int n) {
        return String.valueOf(c).repeat(n);
    }
}

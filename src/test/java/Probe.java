import java.nio.charset.StandardCharsets;

/** What the tests share: notes of what is not as due; calls with rows of bytes told as texts, a character a byte. */
final class Probe {
    interface Act {
        void on(Keeper x);
    }

    static final int PUT = 0;
    static final int SWAP = 1;
    static final int REMOVE = 2;
    static final int GET = 3;
    static final int COUNT = 4;
    static final int NEXT = 5;

    static final Class<? extends RuntimeException> ARGUMENT = IllegalArgumentException.class;
    static final Class<? extends RuntimeException> STATE = IllegalStateException.class;
    static final Class<? extends RuntimeException> INDEX = IndexOutOfBoundsException.class;

    private static int checks = 0;
    private static int wrong = 0;

    private Probe() {
    }

    static void due(String what, Object got, Object want) {
        checks++;
        if (!want.equals(got)) {
            wrong++;
            System.out.println(what + " answered " + shown(got) + ", due is " + shown(want));
        }
    }

    /** The exception is of the very class that is due. */
    static void refused(String what, Class<? extends RuntimeException> want, Keeper x, Act act) {
        due(what, thrownBy(x, act), want.getSimpleName());
    }

    /** The call throws as due, and an object that had it is then like one that had it not. */
    static void refusedAndSame(String what, Class<? extends RuntimeException> want, Act history, Act act) {
        refusedAndLike(what, want, history, act, x -> { });
    }

    /** The call throws as due, and an object that had it is then like one with an emptied tape. */
    static void refusedAndTapeEmpty(String what, Class<? extends RuntimeException> want, Act history, Act act) {
        refusedAndLike(what, want, history, act, Probe::emptyTape);
    }

    private static void refusedAndLike(String what, Class<? extends RuntimeException> want, Act history, Act act,
            Act instead) {
        Keeper had = new Keeper();
        Keeper hadNot = new Keeper();
        history.on(had);
        history.on(hadNot);
        refused(what, want, had, act);
        instead.on(hadNot);
        due("the picture behind " + what, picture(had), picture(hadNot));
    }

    static void emptyTape(Keeper x) {
        thrownBy(x, y -> y.read(0, -1));
    }

    static String thrownBy(Keeper x, Act act) {
        try {
            act.on(x);
        } catch (RuntimeException e) {
            return named(e);
        }
        return "nothing";
    }

    /** The exception's name; that of one which the program has not thrown itself is marked, so that none is due. */
    static String named(RuntimeException e) {
        StackTraceElement[] trace = e.getStackTrace();
        boolean own = trace.length > 0 && trace[0].getClassName().startsWith("TwinKeepers");
        return e.getClass().getSimpleName() + (own ? "" : " of the machine");
    }

    static void end() {
        System.out.println(wrong == 0 ? checks + " answers are as due" : wrong + " answers are not as due");
        if (wrong != 0) {
            System.exit(1);
        }
    }

    static String shown(Object o) {
        StringBuilder told = new StringBuilder();
        for (char c : String.valueOf(o).toCharArray()) {
            if (c > 31 && c < 127) {
                told.append(c);
            } else {
                told.append(String.format("\\%02x", (int) c));
            }
        }
        return told.toString();
    }

    static void feedText(Keeper x, String text) {
        byte[] bytes = text.getBytes(StandardCharsets.ISO_8859_1);
        for (int from = 0; from < bytes.length; from += 8) {
            int n = Math.min(8, bytes.length - from);
            long eight = 0;
            for (int i = 0; i < n; i++) {
                eight |= (bytes[from + i] & 255L) << (8 * i);
            }
            x.feed(eight, n);
        }
    }

    static int shape(int operation, String key, String expected) {
        return operation + 8 * key.length() + 512 * expected.length();
    }

    static int put(Keeper x, int machine, int place, int session, int serial, String key, String value) {
        feedText(x, key + value);
        return x.run(machine, place, session, serial, shape(PUT, key, ""));
    }

    static int swap(Keeper x, int machine, int place, int session, int serial, String key, String... values) {
        feedText(x, key + values[0] + values[1]);
        return x.run(machine, place, session, serial, shape(SWAP, key, values[0]));
    }

    static int remove(Keeper x, int machine, int place, int session, int serial, String key) {
        feedText(x, key);
        return x.run(machine, place, session, serial, shape(REMOVE, key, ""));
    }

    static int get(Keeper x, int machine, String key) {
        feedText(x, key);
        return x.read(machine, shape(GET, key, ""));
    }

    static int count(Keeper x, int machine, String low, String high) {
        feedText(x, low + high);
        return x.read(machine, shape(COUNT, low, ""));
    }

    static int next(Keeper x, int machine, String key) {
        feedText(x, key);
        return x.read(machine, shape(NEXT, key, ""));
    }

    static String result(Keeper x) {
        StringBuilder told = new StringBuilder();
        for (int i = 0; i < 20000; i++) {
            try {
                told.append((char) x.byteAt(i));
            } catch (IndexOutOfBoundsException e) {
                return told.toString();
            }
        }
        return "no end";
    }

    static String rowOf(Keeper x, int machine) {
        x.row(machine);
        return result(x);
    }

    /** All that calls can tell, at the cost of all that the object holds. */
    static String picture(Keeper x) {
        StringBuilder told = new StringBuilder();
        told.append("result ").append(result(x)).append(" place ").append(x.place());
        for (int machine = 0; machine < 2; machine++) {
            for (int what = 0; what < 5; what++) {
                told.append(' ').append(x.state(machine, what));
            }
            told.append(" row ").append(rowOf(x, machine));
        }
        return told.append(" tape ").append(tapeOf(x)).toString();
    }

    /** How many bytes the tape has, and which, when they and one more can be the key and the value of a PUT. */
    private static String tapeOf(Keeper x) {
        int fed;
        try {
            fed = x.feed(0, 1);
        } catch (IllegalStateException e) {
            return "300";
        }
        int machine = x.state(0, 4) < x.state(1, 4) ? 0 : 1;
        int place = x.state(machine, 4);
        if (fed > 132 || place > 999998) {
            return String.valueOf(fed - 1);
        }
        x.clear(machine);
        x.open(machine, place + 1);
        x.run(machine, place + 2, place + 1, 1, 8 * Math.min(fed, 32));
        x.key(machine, 0, 0);
        String key = result(x);
        x.key(machine, 0, 1);
        return (fed - 1) + " " + key + result(x);
    }

    /** A number as a row tells it. */
    static String number(int value, int width) {
        StringBuilder told = new StringBuilder();
        for (int i = 0; i < width; i++) {
            told.append((char) ((value >>> (8 * i)) & 255));
        }
        return told.toString();
    }

    /** A session as a row tells it. */
    static String sessionRow(int number, int used, int serial, int place, String answer) {
        return number(number, 4) + number(used, 4) + number(serial, 4) + number(place, 4) + number(answer.length(), 2)
                + answer;
    }

    /** A key with its value as a row tells it. */
    static String keyRow(String key, String value) {
        return number(key.length(), 1) + number(value.length(), 2) + key + value;
    }

    static String many(char c, int n) {
        return String.valueOf(c).repeat(n);
    }
}

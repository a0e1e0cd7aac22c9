/** Machine 0 of a keeper with one session, in which each operation has the next place and the next serial. */
final class Desk {
    final Keeper x;
    private int place = 1;

    Desk() {
        this(new Keeper());
    }

    Desk(Keeper x) {
        this.x = x;
        x.open(0, place);
    }

    /** With so many keys: bytes 0, 1, .. with empty values. */
    static Desk withKeys(int n) {
        Desk made = new Desk();
        for (int i = 0; i < n; i++) {
            made.put("" + (char) i, "");
        }
        return made;
    }

    /** With 700 units: 77 keys of 9, and "x", with a value of 100 bytes 'b', of 7. */
    static Desk with700Units() {
        Desk made = new Desk(Keeper.beyondTheBoundCalls());
        for (int i = 0; i < 77; i++) {
            made.put((char) i + Probe.many('b', 31), Probe.many('b', 100));
        }
        made.put("x", Probe.many('b', 100));
        made.counts(78, 700);
        return made;
    }

    void put(String key, String value) {
        place++;
        Probe.due("put " + key, Probe.put(x, 0, place, 1, place, key, value), 0);
    }

    void put(String key, String value, String answer) {
        put(key, value);
        Probe.due("answer of put " + key, Probe.result(x), answer);
    }

    void swap(String key, String expected, String value, String answer) {
        place++;
        Probe.due("swap " + key, Probe.swap(x, 0, place, 1, place, key, expected, value), 0);
        Probe.due("answer of swap " + key, Probe.result(x), answer);
    }

    void remove(String key, String answer) {
        place++;
        Probe.due("remove " + key, Probe.remove(x, 0, place, 1, place, key), 0);
        Probe.due("answer of remove " + key, Probe.result(x), answer);
    }

    void get(String key, String answer) {
        read("get " + key, Probe.get(x, 0, key), answer);
    }

    void count(String low, String high, int keys) {
        read("count " + low + ", " + high, Probe.count(x, 0, low, high), Probe.number(keys, 2));
    }

    void next(String key, String answer) {
        read("next " + key, Probe.next(x, 0, key), answer);
    }

    private void read(String what, int bytes, String answer) {
        Probe.due("bytes of " + what, bytes, answer.length());
        Probe.due("answer of " + what, Probe.result(x), answer);
    }

    void counts(int keys, int units) {
        Probe.due("keys", x.state(0, 1), keys);
        Probe.due("units", x.state(0, 2), units);
    }

    void keyIs(int k, String key, String value) {
        Probe.due("bytes of key " + k, x.key(0, k, 0), key.length());
        Probe.due("key " + k, Probe.result(x), key);
        Probe.due("bytes of value " + k, x.key(0, k, 1), value.length());
        Probe.due("value " + k, Probe.result(x), value);
    }
}

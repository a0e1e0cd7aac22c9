/** Promise 2: feed. */
public final class FeedTest {
    public static void main(String[] args) {
        lowestBytesComeFirst();
        onlySoManyBytesCome();
        wrongCountsAreRefused();
        threeHundredAndNoMore();
        eachCountUpToThreeHundred();
        onlyTheTapeChanges();
        Probe.end();
    }

    /** "The n lowest bytes of eight come behind the tape, the lowest first". */
    private static void lowestBytesComeFirst() {
        Keeper x = new Keeper();
        x.open(0, 1);
        Probe.due("feed of 8", x.feed(0x8070605040302010L, 8), 8);
        Probe.due("feed of 2", x.feed(0xfffe, 2), 10);
        x.run(0, 2, 1, 1, 8 * 10);
        x.key(0, 0, 0);
        Probe.due("the bytes", Probe.result(x), "\u0010\u0020\u0030\u0040\u0050\u0060\u0070\u0080\u00fe\u00ff");
    }

    /** "N .. 1 .. 8": each right count brings just so many. */
    private static void onlySoManyBytesCome() {
        for (int n = 1; n <= 8; n++) {
            Keeper x = new Keeper();
            x.open(0, 1);
            Probe.due("feed(-2, " + n + ")", x.feed(-2L, n), n);
            x.run(0, 2, 1, 1, 8 * n);
            Probe.due("bytes of the key", x.key(0, 0, 0), n);
            Probe.due("the key", Probe.result(x), "\u00fe" + Probe.many('\u00ff', n - 1));
        }
    }

    /** "IllegalArgumentException, when n is not 1 .. 8": 0, 9 and those far off. */
    private static void wrongCountsAreRefused() {
        Probe.Act[] histories = {x -> { }, x -> x.feed(7, 3), FeedTest::fill};
        for (Probe.Act history : histories) {
            for (int n : new int[] {0, 9, -1, 16, Integer.MIN_VALUE, Integer.MAX_VALUE}) {
                Probe.refusedAndSame("feed(1, " + n + ")", Probe.ARGUMENT, history, x -> x.feed(1, n));
            }
        }
    }

    private static void fill(Keeper x) {
        for (int i = 0; i < 37; i++) {
            x.feed(i, 8);
        }
        Probe.due("the last feed", x.feed(0, 4), 300);
    }

    /** "A row of at most 300 bytes". */
    private static void threeHundredAndNoMore() {
        Probe.refusedAndSame("feed(0, 1) on a full tape", Probe.STATE, FeedTest::fill, x -> x.feed(0, 1));
        Probe.refusedAndSame("feed(0, 8) on a full tape", Probe.STATE, FeedTest::fill, x -> x.feed(0, 8));
        Keeper x = new Keeper();
        for (int i = 1; i <= 37; i++) {
            Probe.due("feed", x.feed(i, 8), 8 * i);
        }
        Probe.refused("feed(0, 5) behind 296", Probe.STATE, x, y -> y.feed(0, 5));
        Probe.due("feed(0, 3) behind 296", x.feed(0, 3), 299);
        Probe.refused("feed(0, 2) behind 299", Probe.STATE, x, y -> y.feed(0, 2));
        Probe.due("feed(0, 1) behind 299", x.feed(0, 1), 300);
    }

    /** "IllegalStateException, when there would be more than 300": up to 300 and up to 301, by each count. */
    private static void eachCountUpToThreeHundred() {
        for (int count = 1; count <= 8; count++) {
            int n = count;
            Keeper x = new Keeper();
            Probe.feedText(x, Probe.many('t', 300 - n));
            Probe.due("feed of " + n + " up to 300", x.feed(0, n), 300);
            Probe.refusedAndSame("feed of " + n + " up to 301", Probe.STATE, y -> {
                y.open(0, 5);
                Probe.feedText(y, Probe.many('t', 301 - n));
            }, y -> y.feed(0, n));
        }
    }

    private static void onlyTheTapeChanges() {
        Keeper x = new Keeper();
        Keeper y = new Keeper();
        for (Keeper each : new Keeper[] {x, y}) {
            each.open(0, 5);
            Probe.put(each, 0, 6, 5, 1, "k", "v");
            Probe.get(each, 0, "k");
        }
        x.feed(-1, 8);
        Probe.emptyTape(x);
        Probe.due("the picture behind feed()", Probe.picture(x), Probe.picture(y));
    }
}

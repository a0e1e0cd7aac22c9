/** Promise 2: feed. */
public final class FeedTest {
    public static void main(String[] args) {
        lowestBytesComeFirst();
        onlySoManyBytesCome();
        wrongCountsAreRefused();
        threeHundredAndNoMore();
        Probe.end();
    }

    private static void lowestBytesComeFirst() {
        TwinKeepers x = new TwinKeepers();
        x.open(0, 1);
        Probe.due("feed of 8", x.feed(0x8070605040302010L, 8), 8);
        Probe.due("feed of 2", x.feed(0xfffe, 2), 10);
        x.run(0, 2, 1, 1, 8 * 10);
        x.key(0, 0, 0);
        Probe.due("the bytes", Probe.result(x), "\u0010\u0020\u0030\u0040\u0050\u0060\u0070\u0080\u00fe\u00ff");
    }

    private static void onlySoManyBytesCome() {
        for (int n = 1; n <= 8; n++) {
            TwinKeepers x = new TwinKeepers();
            x.open(0, 1);
            Probe.due("feed(-2, " + n + ")", x.feed(-2L, n), n);
            x.run(0, 2, 1, 1, 8 * n);
            Probe.due("bytes of the key", x.key(0, 0, 0), n);
            Probe.due("the key", Probe.result(x), "\u00fe" + Probe.many('\u00ff', n - 1));
        }
    }

    private static void wrongCountsAreRefused() {
        Probe.Act[] histories = {x -> { }, x -> x.feed(7, 3), FeedTest::fill};
        for (Probe.Act history : histories) {
            for (int n : new int[] {0, 9, -1, 16, Integer.MIN_VALUE, Integer.MAX_VALUE}) {
                Probe.refusedAndSame("feed(1, " + n + ")", Probe.ARGUMENT, history, x -> x.feed(1, n));
            }
        }
    }

    private static void fill(TwinKeepers x) {
        for (int i = 0; i < 37; i++) {
            x.feed(i, 8);
        }
        Probe.due("the last feed", x.feed(0, 4), 300);
    }

    private static void threeHundredAndNoMore() {
        Probe.refusedAndSame("feed(0, 1) on a full tape", Probe.STATE, FeedTest::fill, x -> x.feed(0, 1));
        Probe.refusedAndSame("feed(0, 8) on a full tape", Probe.STATE, FeedTest::fill, x -> x.feed(0, 8));
        TwinKeepers x = new TwinKeepers();
        for (int i = 1; i <= 37; i++) {
            Probe.due("feed", x.feed(i, 8), 8 * i);
        }
        Probe.refused("feed(0, 5) behind 296", Probe.STATE, x, y -> y.feed(0, 5));
        Probe.due("feed(0, 3) behind 296", x.feed(0, 3), 299);
        Probe.refused("feed(0, 2) behind 299", Probe.STATE, x, y -> y.feed(0, 2));
        Probe.due("feed(0, 1) behind 299", x.feed(0, 1), 300);
    }
}

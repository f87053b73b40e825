/** Promises 21 to 23: back, told, digest. */
public final class StatesTest {
    private static final Checks CHECKS = new Checks();

    private static void due(String call, long got, long want) {
        CHECKS.due(call, got, want);
    }

    public static void main(String[] args) {
        fiveStates();
        everythingReturns();
        hostsComeAnew();
        whatDoesNotReturn();
        noStepNoState();
        totals();
        digests();
        CHECKS.end("StatesTest");
    }

    private static void fiveStates() {
        LinkNames x = new LinkNames();
        due("none", x.back(), LinkNames.NO);
        for (int i = 1; i <= 8; i++) {
            x.ticks(1);
            due("saved states", x.told(10), Math.min(i, 5));
        }
        for (int left = 4; left >= 0; left--) {
            due("back()", x.back(), left);
            due("time", x.told(5), 3 + left);
            due("saved states", x.told(10), left);
        }
        due("none is left", x.back(), LinkNames.NO);
        due("time", x.told(5), 3);
        due("NO counted", x.told(1), 2);
        x.ticks(1);
        x.ticks(2);
        due("back()", x.back(), 1);
        x.ticks(10);
        due("back()", x.back(), 1);
        due("time", x.told(5), 4);
        for (int i = 0; i < 7; i++) {
            x.ticks(1);
        }
        due("back()", x.back(), 4);
        due("time", x.told(5), 10);
    }

    private static void step(LinkNames x, int which) {
        switch (which) {
            case 0: x.host(); break;
            case 1: x.claims(0, 5, 0, 9, 20); break;
            case 2: x.shares(1, 6, 1, 8, 20); break;
            case 3: x.leaves(0, 0); break;
            case 4: x.ticks(2); break;
            case 5: x.ticks(9); break;
            case 6: x.asks(0, 4, 1); break;
            case 7: x.asks(2, 1, 0); break;
            case 8: x.sleeps(1, 2); break;
            case 9: x.wakes(3); break;
            default:
                Checks.reads(x, "h;t3;z0 1;g1 0;");
                x.clear();
                break;
        }
    }

    /** A link on which much is under way, so that each step changes much; four states are saved. */
    private static LinkNames busyLink() {
        LinkNames x = new LinkNames();
        Checks.reads(x, "h;h;h;h;s0 1 0 1 9;c0 7 3 200 40;t1;c0 8 2 100 50;s3 1 0 2 9;c1 2 0 3 60;s2 4 1 6 7;");
        x.sleeps(3, 0);
        x.ticks(4);
        // Data 2 lose the name to those of host 1, and data 1 wait for those of host 0.
        Checks.reads(x, "c2 2 0 2 20;c0 9 1 9 20;c2 9 1 1 20;t1;");
        x.clear();
        return x;
    }

    private static void everythingReturns() {
        for (int which = 0; which <= 10; which++) {
            LinkNames x = busyLink();
            due("four saved states", x.told(10), 4);
            long before = x.digest();
            step(x, which);
            due("step " + which + " saved", x.told(10), 5);
            due("step " + which + ": back()", x.back(), 4);
            due("step " + which + ": all is as before", x.digest(), before);
            LinkNames y = busyLink();
            for (int i = 0; i < 4; i++) {
                due("step " + which + ": and goes on as it would have", x.ticks(3), y.ticks(3));
                due("step " + which + ": and goes on as it would have", x.digest(), y.digest());
            }
        }
    }

    /** What a host was before it was taken back is nothing to the one that comes in its place. */
    private static void hostsComeAnew() {
        LinkNames x = Checks.withHosts(1);
        Checks.reads(x, "h;s0 1 0 1 9;s1 2 0 1 9;z1 0;");
        x.back();
        due("one host", x.told(4), 1);
        due("host()", x.host(), 1);
        due("no records", x.of(1, 0), 0);
        due("no entries", x.of(1, 3), 0);
        due("awake", x.of(1, 1), 1);
        due("no proxy", x.of(1, 2), LinkNames.NONE);
    }

    private static void whatDoesNotReturn() {
        LinkNames x = Checks.withHosts(1);
        x.ticks(0);
        x.wakes(0);
        for (int i = 0; i < 6; i++) {
            x.host();
        }
        Checks.reads(x, "t61;");
        x.back();
        due("BAD", x.told(0), 1);
        due("NO", x.told(1), 1);
        due("FULL", x.told(2), 1);
        due("text", x.told(3), 4);
        due("why(0)", x.why(0), LinkNames.BAD);
        due("why(1)", x.why(1), 0);
        due("hosts", x.told(4), 5);
    }

    private static void noStepNoState() {
        LinkNames x = Checks.withHosts(2);
        x.type('h');
        x.reads();
        x.clear();
        x.why(0);
        x.told(0);
        x.digest();
        x.rate();
        x.of(0, 0);
        x.all(0);
        x.owner(0, 0, 0);
        x.finds(0, 0, 0, 0);
        x.entry(0, 0, 0);
        due("no step among these", x.told(10), 2);
        x.asks(0, 0, 0);
        due("a question that changes nothing is a step", x.told(10), 3);
        due("sleeps", x.sleeps(0, 1), 0);
        due("wakes", x.wakes(0), 0);
        due("saved", x.told(10), 5);
    }

    private static void totals() {
        LinkNames x = Checks.withHosts(3);
        for (int what : Checks.outside(0, 10)) {
            due("told(" + what + ")", x.told(what), LinkNames.BAD);
        }
        due("BAD", x.told(0), 6);
        x.claims(0, 1, 0, 5, 60);
        x.ticks(3);
        x.claims(1, 1, 0, 6, 60);
        x.ticks(1);
        x.asks(2, 1, 0);
        x.type(1);
        int[] values = {6, 0, 0, 1, 3, 4, 1, 4, 1, 1, 5};
        for (int what = 0; what < values.length; what++) {
            due("told(" + what + ")", x.told(what), values[what]);
        }
    }

    private static long hashOf(long... values) {
        long hash = 2309;
        for (long value : values) {
            hash = 31 * hash + value;
        }
        return hash;
    }

    private static void digests() {
        LinkNames x = new LinkNames();
        due("digest of a new object", x.digest(),
                hashOf(0, 0, 0, 0, 0, 0, 0, 0, 0, 0, 0, 0, -1, 0, 0, 0, 0, 0));
        x.host();
        x.host();
        x.shares(0, 3, 1, 77, 9);
        x.ticks(2);
        x.wakes(5);
        x.wakes(1);
        x.type(120);
        Checks.reads(x, "h;w1;");
        due("digest", x.digest(), hashOf(
                1, 1, 0, 5, 2, 2, 1, 0, 0, 0, 4,
                -3, 1,
                1, 1, -1, 0, 1, 0,
                3, 1, 77, 9, 3, 0, 0, 0,
                0, 1, -1, 1, 0, 0,
                3, 1, 77, 9, 7,
                Float.floatToIntBits(0.1875f),
                1, 0, 0, 2));
        due("the same again", x.digest(), x.digest());
        due("nothing is counted by it", x.told(0), 1);
    }
}

/** Promises 1 to 7: a new object, host, claims, shares, leaves, record, of. */
public final class HostsAndRecordsTest {
    private static final Checks CHECKS = new Checks();

    private static void due(String call, long got, long want) {
        CHECKS.due(call, got, want);
    }

    public static void main(String[] args) {
        newObject();
        hosts();
        claims();
        shares();
        errorsInOrder();
        leaves();
        goodbyes();
        records();
        defended();
        hostProperties();
        CHECKS.end("HostsAndRecordsTest");
    }

    private static void newObject() {
        LinkNames x = new LinkNames();
        for (int what = 0; what <= 10; what++) {
            due("new: told(" + what + ")", x.told(what), 0);
        }
        for (int what = 0; what <= 3; what++) {
            due("new: all(" + what + ")", x.all(what), 0);
        }
        due("new: rate()", x.rate(), 0);
        due("new: why(0)", x.why(0), 0);
        due("new: why(1)", x.why(1), LinkNames.NONE);
        due("new: clear()", x.clear(), 0);
        due("new: back()", x.back(), LinkNames.NO);
        due("new: of(0, 0)", x.of(0, 0), LinkNames.BAD);
    }

    private static void hosts() {
        LinkNames x = new LinkNames();
        for (int h = 0; h < 6; h++) {
            due("host()", x.host(), h);
            due("new host: records", x.of(h, 0), 0);
            due("new host: awake", x.of(h, 1), 1);
            due("new host: proxy", x.of(h, 2), LinkNames.NONE);
            due("new host: entries", x.of(h, 3), 0);
            due("new host: proxied", x.of(h, 5), 0);
        }
        due("seventh host()", x.host(), LinkNames.FULL);
        due("told(4)", x.told(4), 6);
        due("told(2)", x.told(2), 1);
        due("saved after six hosts", x.told(10), 5);
        x.shares(0, 1, 1, 1, 9);
        x.sleeps(5, 0);
        for (int i = 0; i < 3; i++) {
            x.back();
        }
        due("hosts after back()", x.told(4), 5);
        due("a host that comes again", x.host(), 5);
        due("is awake", x.of(5, 1), 1);
        due("has no entries", x.of(5, 3), 0);
        due("has no proxy", x.of(5, 2), LinkNames.NONE);
    }

    private static void claims() {
        LinkNames x = Checks.withHosts(2);
        due("claims", x.claims(0, 15, 3, 255, 60), 0);
        int[] values = {15, 3, 255, 60, 0, 0, 1, 0};
        for (int what = 0; what < values.length; what++) {
            due("record(0, 0, " + what + ")", x.record(0, 0, what), values[what]);
        }
        due("a claim is no message", x.told(6), 0);
        due("least values", x.claims(0, 0, 0, 0, 2), 1);
        due("same name", x.claims(0, 0, 0, 9, 9), LinkNames.NO);
        due("same name, other kind", x.claims(0, 0, 1, 0, 2), 2);
        due("same name, other host", x.claims(1, 0, 0, 0, 2), 0);
        due("saved", x.told(10), 5);
        due("NO", x.told(1), 1);
    }

    private static void shares() {
        LinkNames x = Checks.withHosts(3);
        due("shares", x.shares(1, 4, 2, 17, 30), 0);
        int[] values = {4, 2, 17, 30, 3, 0, 0, 0};
        for (int what = 0; what < values.length; what++) {
            due("record(1, 0, " + what + ")", x.record(1, 0, what), values[what]);
        }
        due("messages", x.told(6), 1);
        due("host 0 heard", x.finds(0, 4, 2, 0), 17);
        due("host 1 did not", x.of(1, 3), 0);
        due("host 2 heard", x.finds(2, 4, 2, 2), 30);
        due("same name", x.shares(1, 4, 2, 18, 30), LinkNames.NO);
        due("same name claimed", x.claims(1, 4, 2, 18, 30), LinkNames.NO);
        x.sleeps(1, 0);
        due("asleep", x.shares(1, 5, 2, 18, 30), LinkNames.NO);
        due("asleep", x.claims(1, 5, 2, 18, 30), LinkNames.NO);
    }

    private static void errorsInOrder() {
        LinkNames x = Checks.withHosts(1);
        for (int h : new int[] {-1, 1, 6, Integer.MIN_VALUE, Integer.MAX_VALUE}) {
            due("claims of host " + h, x.claims(h, 0, 0, 0, 2), LinkNames.BAD);
            due("shares of host " + h, x.shares(h, 0, 0, 0, 2), LinkNames.BAD);
        }
        int[][] ranges = {{0, 15}, {0, 3}, {0, 255}, {2, 60}};
        for (int at = 0; at < ranges.length; at++) {
            for (int value : Checks.outside(ranges[at][0], ranges[at][1])) {
                int[] a = {1, 1, 1, 5};
                a[at] = value;
                due("claims, argument " + (at + 1) + " = " + value, x.claims(0, a[0], a[1], a[2], a[3]), LinkNames.BAD);
                due("shares, argument " + (at + 1) + " = " + value, x.shares(0, a[0], a[1], a[2], a[3]), LinkNames.BAD);
            }
        }
        due("BAD counted", x.told(0), 58);
        due("nothing was saved", x.told(10), 1);
        for (int r = 0; r < 5; r++) {
            x.claims(0, r, 0, 0, 2);
        }
        due("sixth record", x.claims(0, 9, 0, 0, 2), LinkNames.FULL);
        due("sixth record", x.shares(0, 9, 0, 0, 2), LinkNames.FULL);
        due("NO before FULL", x.claims(0, 4, 0, 0, 2), LinkNames.NO);
        due("NO before FULL", x.shares(0, 4, 0, 0, 2), LinkNames.NO);
        due("BAD before NO", x.claims(0, 4, 0, 0, 1), LinkNames.BAD);
        x.sleeps(0, LinkNames.NONE);
        due("NO before FULL", x.claims(0, 9, 0, 0, 2), LinkNames.NO);
        due("BAD before NO", x.shares(0, 16, 0, 0, 2), LinkNames.BAD);
        due("FULL counted", x.told(2), 2);
        due("NO counted", x.told(1), 3);
        due("BAD counted", x.told(0), 60);
    }

    private static void leaves() {
        LinkNames x = Checks.withHosts(2);
        x.claims(0, 1, 0, 10, 9);
        x.claims(0, 2, 0, 20, 9);
        x.claims(0, 3, 0, 30, 9);
        due("leaves the middle", x.leaves(0, 1), 2);
        due("the first stays", x.record(0, 0, 2), 10);
        due("the last moves up", x.record(0, 1, 2), 30);
        due("no third", x.record(0, 2, 2), LinkNames.BAD);
        due("a record that is not owned goes without a message", x.told(6), 0);
        for (int r : new int[] {-1, 2, 5, Integer.MIN_VALUE, Integer.MAX_VALUE}) {
            due("leaves(0, " + r + ")", x.leaves(0, r), LinkNames.BAD);
        }
        for (int h : new int[] {-1, 2, Integer.MIN_VALUE, Integer.MAX_VALUE}) {
            due("leaves(" + h + ", 0)", x.leaves(h, 0), LinkNames.BAD);
        }
        x.sleeps(0, LinkNames.NONE);
        due("asleep", x.leaves(0, 0), LinkNames.NO);
        due("BAD before NO", x.leaves(0, 2), LinkNames.BAD);
        x.wakes(0);
        due("leaves", x.leaves(0, 0), 1);
        due("a new record after one has left", x.claims(0, 9, 2, 40, 12), 1);
        int[] values = {9, 2, 40, 12, 0, 0, 1, 0};
        for (int what = 0; what < values.length; what++) {
            due("record(0, 1, " + what + ")", x.record(0, 1, what), values[what]);
        }
        due("leaves", x.leaves(0, 0), 1);
        due("leaves", x.leaves(0, 0), 0);
        due("none is left", x.leaves(0, 0), LinkNames.BAD);
    }

    private static void goodbyes() {
        LinkNames x = Checks.withHosts(4);
        x.shares(0, 1, 0, 10, 20);
        x.shares(0, 2, 0, 10, 20);
        x.shares(0, 3, 0, 10, 2);
        x.sleeps(3, LinkNames.NONE);
        // Host 2 has heard the record before it claims the same itself, so it keeps an entry of it.
        x.claims(2, 1, 0, 10, 20);
        due("leaves", x.leaves(0, 0), 2);
        due("a message", x.told(6), 4);
        due("the entry ends soon", x.finds(1, 1, 0, 2), 1);
        due("also where the record is claimed", x.finds(2, 1, 0, 2), 1);
        due("another entry does not", x.finds(1, 2, 0, 2), 20);
        due("a sleeping host does not hear it", x.finds(3, 1, 0, 2), 20);
        x.ticks(1);
        due("it has ended", x.finds(1, 1, 0, 1), 0);
        due("an entry that ends at time + 1 anyway", x.finds(1, 3, 0, 2), 1);
        due("leaves", x.leaves(0, 1), 1);
        due("stays so", x.finds(1, 3, 0, 2), 1);
        due("goodbye of what this host itself has kept", x.leaves(2, 0), 0);
        due("no message, for it was not owned", x.told(6), 5);
    }

    private static void records() {
        LinkNames x = Checks.withHosts(2);
        x.claims(0, 1, 0, 10, 9);
        for (int what : Checks.outside(0, 7)) {
            due("record(0, 0, " + what + ")", x.record(0, 0, what), LinkNames.BAD);
        }
        for (int r : new int[] {-1, 1, 5, Integer.MIN_VALUE, Integer.MAX_VALUE}) {
            due("record(0, " + r + ", 0)", x.record(0, r, 0), LinkNames.BAD);
        }
        for (int h : new int[] {-1, 2, 6, Integer.MIN_VALUE, Integer.MAX_VALUE}) {
            due("record(" + h + ", 0, 0)", x.record(h, 0, 0), LinkNames.BAD);
        }
        due("record of a host without one", x.record(1, 0, 0), LinkNames.BAD);
        due("BAD counted", x.told(0), 17);
        x.ticks(2);
        due("stage", x.record(0, 0, 4), 2);
    }

    private static void defended() {
        LinkNames x = Checks.withHosts(3);
        x.claims(0, 1, 0, 10, 9);
        x.shares(0, 2, 0, 10, 9);
        x.ticks(2);
        due("not owned", x.record(0, 0, 7), 0);
        x.ticks(1);
        due("owned and sole", x.record(0, 0, 7), 1);
        due("shared", x.record(0, 1, 7), 0);
        x.sleeps(0, LinkNames.NONE);
        due("asleep without a proxy", x.record(0, 0, 7), 0);
        x.wakes(0);
        x.sleeps(0, 1);
        due("asleep with a proxy", x.record(0, 0, 7), 1);
        x.sleeps(1, 2);
        due("the proxy sleeps, though it has one too", x.record(0, 0, 7), 0);
        x.wakes(1);
        due("the proxy wakes", x.record(0, 0, 7), 1);
    }

    private static void hostProperties() {
        LinkNames x = Checks.withHosts(6);
        x.claims(2, 1, 0, 10, 60);
        x.shares(2, 2, 0, 10, 60);
        x.claims(2, 3, 0, 10, 60);
        due("records", x.of(2, 0), 3);
        due("owned", x.of(2, 4), 1);
        x.ticks(3);
        due("owned", x.of(2, 4), 3);
        due("entries", x.of(1, 3), 3);
        x.sleeps(0, 2);
        x.sleeps(5, 2);
        x.sleeps(4, 3);
        due("awake", x.of(2, 1), 1);
        due("asleep", x.of(5, 1), 0);
        due("proxy", x.of(5, 2), 2);
        due("whose proxy it is", x.of(2, 5), 1 + 32);
        due("whose proxy it is", x.of(3, 5), 16);
        x.sleeps(2, LinkNames.NONE);
        due("it stays their proxy", x.of(2, 5), 1 + 32);
        due("it has none", x.of(2, 2), LinkNames.NONE);
        x.wakes(5);
        due("no more", x.of(2, 5), 1);
        for (int what : Checks.outside(0, 5)) {
            due("of(2, " + what + ")", x.of(2, what), LinkNames.BAD);
        }
        for (int h : Checks.outside(0, 5)) {
            due("of(" + h + ", 0)", x.of(h, 0), LinkNames.BAD);
        }
        due("BAD counted", x.told(0), 12);
    }
}

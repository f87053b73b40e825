import java.math.BigInteger;

/** The edges in the promises themselves: a method or more for each of them, 1 (A new object) to 23 (digest). */
public final class PromiseEdgesTest extends Edges {
    public static void main(String[] args) {
        newObject();
        host();
        claims();
        shares();
        leaves();
        recordProperties();
        of();
        ticks();
        rate();
        asks();
        entryProperties();
        finds();
        owner();
        all();
        sleeps();
        wakes();
        type();
        clear();
        readsAnswers();
        readsDoesNothing();
        textStays();
        why();
        whyStays();
        back();
        told();
        digest();
        digestOverflows();
        end("PromiseEdgesTest");
    }

    private static void newObject() {
        sentence("Creates a link without hosts, with an empty text; all counts are 0.");
        LinkNames x = new LinkNames();
        for (int what = 0; what <= 10; what++) {
            due("told(" + what + ")", x.told(what), 0);
        }
        for (int what = 0; what <= 3; what++) {
            due("all(" + what + ")", x.all(what), 0);
        }
        due("an empty text", x.clear(), 0);
        due("an empty text has no order", x.reads(), -10);
        due("rate", x.rate(), 0);
        due("no host", x.of(0, 0), BAD);
        LinkNames other = Checks.withHosts(3);
        due("three hosts there", other.told(4), 3);
        due("none here", x.told(4), 0);
    }

    private static void host() {
        sentence("Returns its number; FULL if there are six hosts.");
        LinkNames x = new LinkNames();
        for (int h = 0; h < 6; h++) {
            due("host()", x.host(), h);
        }
        refused("host()", x, FULL, x::host);
        refused("host()", x, FULL, x::host);
        x.back();
        due("room again", x.host(), 5);
    }

    private static void claims() {
        adds(true);
        sentence("Adds a sole record with stage 0 and wait 0 (step).");
        LinkNames x = Checks.withHosts(2);
        x.claims(0, 4, 1, 5, 6);
        record("sole, stage 0, wait 0", x, 0, 0, 4, 1, 5, 6, 0, 0, 1, 0);
        due("not announced", x.told(6), 0);
        due("a step", x.told(10), 3);
    }

    private static void shares() {
        adds(false);
        sentence("Adds a shared record, which is owned at once and announced by its host (step).");
        LinkNames x = Checks.withHosts(2);
        x.shares(0, 4, 1, 5, 6);
        record("shared, owned at once", x, 0, 0, 4, 1, 5, 6, 3, 0, 0, 0);
        due("announced", x.told(6), 1);
        entry("heard", x, 1, 0, 4, 1, 5, 6, 6);
        due("a step", x.told(10), 3);
    }

    private static int add(boolean sole, LinkNames x, int h, int... a) {
        return sole ? x.claims(h, a[0], a[1], a[2], a[3]) : x.shares(h, a[0], a[1], a[2], a[3]);
    }

    /** What claims and shares say in the same words. */
    private static void adds(boolean sole) {
        sentence("Returns the number of the record; BAD if an argument is invalid; NO if the host sleeps or has a"
                + " record of one name with it; FULL if it has five records.");
        String call = sole ? "claims" : "shares";
        LinkNames x = Checks.withHosts(6);
        for (int h : NO_HOST) {
            refused(call + " of host " + h, x, BAD, () -> add(sole, x, h, 0, 0, 0, 2));
        }
        addsWithinRanges(sole, call);
        LinkNames y = Checks.withHosts(2);
        refused(call + ": the first host that is not there", y, BAD, () -> add(sole, y, 2, 0, 0, 0, 2));
        for (int r = 0; r < 5; r++) {
            due(call + ": its number", add(sole, y, 0, r, 0, 0, 2), r);
            refused(call + ": one name", y, NO, () -> add(sole, y, 0, 0, 0, 1, 3));
        }
        refused(call + ": five records", y, FULL, () -> add(sole, y, 0, 5, 0, 0, 2));
        y.sleeps(1, 0);
        refused(call + ": asleep, with a proxy", y, NO, () -> add(sole, y, 1, 5, 0, 0, 2));
        LinkNames z = after(1, "z0;");
        refused(call + ": asleep, without one", z, NO, () -> add(sole, z, 0, 5, 0, 0, 2));
    }

    private static void addsWithinRanges(boolean sole, String call) {
        int[][] ranges = {{0, 15}, {0, 3}, {0, 255}, {2, 60}};
        for (int at = 0; at < ranges.length; at++) {
            LinkNames x = Checks.withHosts(1);
            for (int value : Checks.outside(ranges[at][0], ranges[at][1])) {
                int[] a = {1, 1, 1, 5};
                a[at] = value;
                refused(call + ", argument " + (at + 1) + " = " + value, x, BAD, () -> add(sole, x, 0, a));
            }
            for (int edge = 0; edge <= 1; edge++) {
                int[] a = {edge + 4, 1, 1, 5};
                a[at] = ranges[at][edge];
                due(call + ", argument " + (at + 1) + " = " + a[at], add(sole, x, 0, a), edge);
                due("its value", x.record(0, edge, at), a[at]);
            }
        }
    }

    private static void leaves() {
        sentence("Returns how many records the host has left; BAD if there is no such host or record; NO if the host"
                + " sleeps.");
        LinkNames x = after(6, "c0 1 0 5 60;c0 2 0 5 60;c0 3 0 5 60;c0 4 0 5 60;c0 5 0 5 60;");
        for (int h : NO_HOST) {
            refused("leaves(" + h + ", 0)", x, BAD, () -> x.leaves(h, 0));
        }
        for (int r : Checks.outside(0, 4)) {
            refused("leaves(0, " + r + ")", x, BAD, () -> x.leaves(0, r));
        }
        refused("a host without records", x, BAD, () -> x.leaves(5, 0));
        due("five, then four", x.leaves(0, 4), 4);
        refused("the first that is not there", x, BAD, () -> x.leaves(0, 4));
        x.sleeps(0, 1);
        refused("asleep, with a proxy", x, NO, () -> x.leaves(0, 0));
        x.wakes(0);
        for (int left = 3; left >= 0; left--) {
            due("left", x.leaves(0, left), left);
        }
        refused("none is left", x, BAD, () -> x.leaves(0, 0));
        LinkNames y = Checks.withHosts(1);
        refused("the first host that is not there", y, BAD, () -> y.leaves(1, 0));
    }

    private static void recordProperties() {
        sentence("Returns the property; BAD if an argument is invalid.");
        LinkNames x = after(6, "c0 15 3 255 60;t3;c5 1 0 5 9;");
        record("all of them", x, 0, 0, 15, 3, 255, 60, 3, 0, 1, 1);
        record("all of them", x, 5, 0, 1, 0, 5, 9, 0, 0, 1, 0);
        for (int what : Checks.outside(0, 7)) {
            refused("record(0, 0, " + what + ")", x, BAD, () -> x.record(0, 0, what));
        }
        for (int r : Checks.outside(0, 0)) {
            refused("record(0, " + r + ", 0)", x, BAD, () -> x.record(0, r, 0));
        }
        for (int h : NO_HOST) {
            refused("record(" + h + ", 0, 0)", x, BAD, () -> x.record(h, 0, 0));
        }
        refused("a host without records", x, BAD, () -> x.record(1, 0, 0));
        LinkNames y = Checks.withHosts(1);
        refused("the first host that is not there", y, BAD, () -> y.record(1, 0, 0));
        x.sleeps(0, NONE);
        due("a sleeper's can be asked for", x.record(0, 0, 2), 255);
    }

    private static void of() {
        sentence("Returns the property; BAD if an argument is invalid.");
        LinkNames x = after(6, "c0 1 0 5 60;s0 2 0 5 60;z1 0;z5 0;z4 3;");
        int[][] properties = {{2, 1, -1, 0, 1, 2 + 32}, {0, 0, 0, 1, 0, 0}, {0, 1, -1, 1, 0, 0}, {0, 1, -1, 1, 0, 16}};
        for (int h = 0; h < properties.length; h++) {
            for (int what = 0; what <= 5; what++) {
                due("of(" + h + ", " + what + ")", x.of(h, what), properties[h][what]);
            }
        }
        for (int what : Checks.outside(0, 5)) {
            refused("of(0, " + what + ")", x, BAD, () -> x.of(0, what));
        }
        for (int h : NO_HOST) {
            refused("of(" + h + ", 0)", x, BAD, () -> x.of(h, 0));
        }
        LinkNames y = Checks.withHosts(6);
        for (int h = 0; h < 5; h++) {
            y.sleeps(h, 5);
        }
        due("the set of all others", y.of(5, 5), 31);
        LinkNames z = Checks.withHosts(1);
        refused("the first host that is not there", z, BAD, () -> z.of(1, 0));
        due("without a proxy", z.of(0, 2), NONE);
        due("proxy of none", z.of(0, 5), 0);
    }

    private static void ticks() {
        sentence("Returns by how much the number of messages increased; BAD if n is out of range.");
        LinkNames x = after(2, "s0 9 0 5 60;c0 1 0 5 60;c0 2 0 5 60;");
        for (int n : Checks.outside(1, 60)) {
            refused("ticks(" + n + ")", x, BAD, () -> x.ticks(n));
        }
        due("the least", x.ticks(1), 0);
        due("time", x.told(5), 1);
        due("two records are announced", x.ticks(2), 2);
        due("the greatest", x.ticks(60), 0);
        due("time", x.told(5), 63);
        due("messages", x.told(6), 3);
        LinkNames y = after(2, "c0 1 0 5 60;");
        due("sixty ticks, of which one has a message", y.ticks(60), 1);
        due("one step for all of them", y.back(), 3);
        due("time", y.told(5), 0);
    }

    private static void rate() {
        sentence("Returns its bits (Float.floatToIntBits).");
        LinkNames x = new LinkNames();
        due("0", x.rate(), 0);
        float rate = 0;
        LinkNames y = Checks.withHosts(1);
        for (int i = 0; i < 40; i++) {
            y.shares(0, 1, 0, 5, 60);
            y.leaves(0, 0);
        }
        y.ticks(1);
        rate = 80 * 0.25f;
        due("a rate above 1", y.rate(), Float.floatToIntBits(rate));
        for (int i = 0; i < 200; i++) {
            y.ticks(2);
            rate = rate * 0.75f * 0.75f;
            due("a rate of " + rate, y.rate(), Float.floatToIntBits(rate));
        }
        holds("the rates have come to the least floats", rate > 0 && rate < Float.MIN_NORMAL);
        LinkNames z = after(1, "s0 1 0 5 60;s0 2 0 5 60;s0 3 0 5 60;s0 4 0 5 60;t1;");
        due("just 1", z.rate(), 0x3F800000);
        changesNothing("rate()", z, 0x3F800000, z::rate);
    }

    private static void asks() {
        sentence("Returns how many records were announced; BAD if an argument is invalid; NO if the host sleeps.");
        LinkNames x = after(6, "z5;s0 15 3 5 60;s1 15 3 6 60;s2 15 3 6 60;w5;");
        for (int h : NO_HOST) {
            refused("asks(" + h + ", 0, 0)", x, BAD, () -> x.asks(h, 0, 0));
        }
        for (int name : Checks.outside(0, 15)) {
            refused("asks(0, " + name + ", 0)", x, BAD, () -> x.asks(0, name, 0));
        }
        for (int kind : Checks.outside(0, 3)) {
            refused("asks(0, 0, " + kind + ")", x, BAD, () -> x.asks(0, 0, kind));
        }
        due("the least name and kind", x.asks(5, 0, 0), 0);
        due("the greatest name and kind", x.asks(5, 15, 3), 2);
        x.sleeps(5, 0);
        refused("asleep, with a proxy", x, NO, () -> x.asks(5, 15, 3));
        LinkNames y = Checks.withHosts(1);
        refused("the first host that is not there", y, BAD, () -> y.asks(1, 0, 0));
        due("alone", y.asks(0, 0, 0), 0);
        LinkNames z = after(6, "z5;s0 1 0 1 60;s1 1 0 2 60;s2 1 0 3 60;s3 1 0 4 60;s4 1 0 5 60;w5;");
        due("all five others", z.asks(5, 1, 0), 5);
    }

    private static void entryProperties() {
        sentence("Returns the property; BAD if an argument is invalid; NONE if there is no such entry.");
        LinkNames x = after(6, "s0 15 3 255 60;t7;");
        entry("all of them", x, 1, 0, 15, 3, 255, 60, 53);
        for (int what = 0; what <= 4; what++) {
            due("behind the last", x.entry(1, 1, what), NONE);
            due("in an empty cache", x.entry(0, 0, what), NONE);
        }
        changesNothing("far behind the last", x, NONE, () -> x.entry(1, Integer.MAX_VALUE, 0));
        changesNothing("the seventh", x, NONE, () -> x.entry(1, 6, 0));
        for (int what : Checks.outside(0, 4)) {
            refused("entry(1, 0, " + what + ")", x, BAD, () -> x.entry(1, 0, what));
        }
        for (int i : new int[] {-1, -1000, Integer.MIN_VALUE}) {
            refused("entry(1, " + i + ", 0)", x, BAD, () -> x.entry(1, i, 0));
        }
        for (int h : NO_HOST) {
            refused("entry(" + h + ", 0, 0)", x, BAD, () -> x.entry(h, 0, 0));
        }
        LinkNames y = Checks.withHosts(1);
        refused("the first host that is not there", y, BAD, () -> y.entry(1, 0, 0));
        LinkNames z = after(3, "s0 1 0 0 60;s0 2 0 0 60;s0 3 0 0 60;s0 4 0 0 60;s0 5 0 0 60;s1 6 0 0 60;");
        due("the sixth", z.entry(2, 5, 0), 6);
        due("no seventh", z.entry(2, 6, 0), NONE);
    }

    private static void finds() {
        sentence("Returns that value; BAD if an argument is invalid; for what = 0 and 2 NONE if there is no such"
                + " entry.");
        LinkNames x = after(6, "s0 15 3 9 40;s1 15 3 0 20;s2 15 2 5 60;s2 14 3 6 60;t3;");
        due("the newest one's data", x.finds(5, 15, 3, 0), 0);
        due("how many", x.finds(5, 15, 3, 1), 2);
        due("the greatest end minus time, of the older one", x.finds(5, 15, 3, 2), 37);
        due("no such entry: data", x.finds(5, 0, 0, 0), NONE);
        due("no such entry: number", x.finds(5, 0, 0, 1), 0);
        due("no such entry: end", x.finds(5, 0, 0, 2), NONE);
        for (int what : Checks.outside(0, 2)) {
            refused("finds(5, 15, 3, " + what + ")", x, BAD, () -> x.finds(5, 15, 3, what));
        }
        for (int name : Checks.outside(0, 15)) {
            refused("finds(5, " + name + ", 3, 1)", x, BAD, () -> x.finds(5, name, 3, 1));
        }
        LinkNames y = after(3, "s0 1 0 1 60;s0 2 0 1 60;s0 3 0 1 60;s0 4 0 1 60;s0 5 0 1 60;s1 1 0 2 60;");
        for (int kind : Checks.outside(0, 3)) {
            refused("finds(2, 1, " + kind + ", 1)", y, BAD, () -> y.finds(2, 1, kind, 1));
        }
        for (int h : new int[] {-1, 3, 6, Integer.MIN_VALUE, Integer.MAX_VALUE}) {
            refused("finds(" + h + ", 1, 0, 1)", y, BAD, () -> y.finds(h, 1, 0, 1));
        }
        due("the first and the sixth entry", y.finds(2, 1, 0, 1), 2);
        due("the sixth is the newest", y.finds(2, 1, 0, 0), 2);
    }

    private static void owner() {
        sentence("Returns that value; BAD if an argument is out of range; for what = 0 and 1 NONE if there is none.");
        LinkNames x = after(6, "c5 15 3 7 60;c1 15 3 7 60;c2 15 2 1 60;c3 14 3 1 60;s0 15 3 1 60;t3;");
        due("the smallest host", x.owner(15, 3, 0), 1);
        due("its data", x.owner(15, 3, 1), 7);
        due("how many hosts", x.owner(15, 3, 2), 2);
        due("none", x.owner(0, 0, 0), NONE);
        due("none's data", x.owner(0, 0, 1), NONE);
        due("no hosts", x.owner(0, 0, 2), 0);
        for (int what : Checks.outside(0, 2)) {
            refused("owner(15, 3, " + what + ")", x, BAD, () -> x.owner(15, 3, what));
        }
        for (int name : Checks.outside(0, 15)) {
            refused("owner(" + name + ", 3, 0)", x, BAD, () -> x.owner(name, 3, 0));
        }
        for (int kind : Checks.outside(0, 3)) {
            refused("owner(15, " + kind + ", 0)", x, BAD, () -> x.owner(15, kind, 0));
        }
        LinkNames y = new LinkNames();
        due("without hosts", y.owner(15, 3, 0), NONE);
        due("without hosts", y.owner(15, 3, 1), NONE);
        due("without hosts", y.owner(15, 3, 2), 0);
        LinkNames z = after(6, "c0 1 0 7 60;c1 1 0 7 60;c2 1 0 7 60;c3 1 0 7 60;c4 1 0 7 60;c5 1 0 7 60;t3;");
        due("all six", z.owner(1, 0, 2), 6);
        due("host 0", z.owner(1, 0, 0), 0);
        z.sleeps(0, NONE);
        due("a sleeper without a proxy does not count", z.owner(1, 0, 0), 1);
        z.sleeps(1, 2);
        due("one with a proxy does", z.owner(1, 0, 0), 1);
        due("five", z.owner(1, 0, 2), 5);
        LinkNames w = after(2, "c0 3 0 5 60;c1 4 0 70 60;t3;c1 3 0 60 60;t4;");
        due("two records of one host: the first one's data", w.owner(4, 0, 1), 70);
        due("one host", w.owner(4, 0, 2), 1);
        LinkNames v = after(1, "s0 9 0 1 60;c0 4 1 2 60;c0 4 0 3 60;t3;");
        due("data of a record that is not record 0", v.owner(4, 0, 1), 3);
        v.leaves(0, 2);
        due("none after its goodbye", v.owner(4, 0, 0), NONE);
        due("none after its goodbye", v.owner(4, 0, 2), 0);
    }

    private static void all() {
        sentence("Returns the total; BAD if what is out of range.");
        LinkNames x = after(4, "s0 1 0 1 60;s0 2 0 2 60;c1 3 0 3 60;z2;g0 0;c1 1 0 1 60;");
        due("entries, also of a sleeper", x.all(0), 6);
        due("entries that no owned record has", x.all(1), 3);
        due("records that are not owned", x.all(2), 2);
        due("hosts that are awake", x.all(3), 3);
        x.ticks(3);
        due("host 1 has an owned one now", x.all(1), 0);
        x.claims(1, 9, 0, 1, 60);
        x.sleeps(1, NONE);
        due("also while it sleeps", x.all(1), 0);
        due("a sleeper's record that is not owned", x.all(2), 1);
        for (int what : Checks.outside(0, 3)) {
            refused("all(" + what + ")", x, BAD, () -> x.all(what));
        }
        LinkNames y = after(6, "s0 1 0 1 60;g0 0;z0;z1;z2;z3;z4;z5;");
        due("none is awake", y.all(3), 0);
        due("what no record of six hosts has", y.all(1), 5);
        LinkNames z = after(3, "s0 1 0 1 60;c1 1 0 2 60;c1 1 1 1 60;c1 2 0 1 60;t3;z2;g0 0;");
        due("other data, another kind or name are not the same", z.all(1), 2);
    }

    private static void sleeps() {
        sentence("Returns how many owned records it has; BAD if there is no such host, or p is neither NONE nor"
                + " another host; NO if the host or the proxy sleeps.");
        LinkNames x = after(6, "s0 1 0 1 60;s0 2 0 1 60;c0 3 0 1 60;");
        for (int h : NO_HOST) {
            refused("sleeps(" + h + ", NONE)", x, BAD, () -> x.sleeps(h, NONE));
            refused("sleeps(" + h + ", 1)", x, BAD, () -> x.sleeps(h, 1));
        }
        for (int p : new int[] {-2, -3, 6, Integer.MIN_VALUE, Integer.MAX_VALUE}) {
            refused("sleeps(0, " + p + ")", x, BAD, () -> x.sleeps(0, p));
        }
        refused("itself", x, BAD, () -> x.sleeps(0, 0));
        due("two are owned", x.sleeps(0, 5), 2);
        refused("it sleeps", x, NO, () -> x.sleeps(0, 5));
        refused("it sleeps", x, NO, () -> x.sleeps(0, NONE));
        refused("the proxy sleeps", x, NO, () -> x.sleeps(1, 0));
        due("none is owned", x.sleeps(1, NONE), 0);
        refused("both sleep", x, NO, () -> x.sleeps(0, 1));
        LinkNames y = Checks.withHosts(2);
        refused("the first host that is not there", y, BAD, () -> y.sleeps(2, NONE));
        refused("the first proxy that is not there", y, BAD, () -> y.sleeps(0, 2));
        LinkNames z = after(2, "c0 1 0 1 60;t2;");
        due("stage 2 is not owned", z.sleeps(0, 1), 0);
    }

    private static void wakes() {
        sentence("Returns how many records were announced; BAD if there is no such host; NO if it is awake.");
        LinkNames x = after(6, "s0 1 0 1 60;s0 2 0 1 60;c0 3 0 1 60;z0 1;");
        for (int h : NO_HOST) {
            refused("wakes(" + h + ")", x, BAD, () -> x.wakes(h));
        }
        refused("awake", x, NO, () -> x.wakes(1));
        int messages = x.told(6);
        due("two are announced", x.wakes(0), 2);
        due("two messages", x.told(6), messages + 2);
        refused("awake again", x, NO, () -> x.wakes(0));
        LinkNames y = after(1, "z0;");
        refused("the first host that is not there", y, BAD, () -> y.wakes(1));
        due("without records", y.wakes(0), 0);
        LinkNames z = after(1, "s0 1 0 1 60;s0 2 0 1 60;s0 3 0 1 60;s0 4 0 1 60;s0 5 0 1 60;z0;");
        due("five records, alone", z.wakes(0), 5);
    }

    private static void type() {
        sentence("Returns the new length; BAD if c is out of range; FULL if the text has 120 bytes.");
        LinkNames x = new LinkNames();
        for (int c : Checks.outside(0, 127)) {
            refused("type(" + c + ")", x, BAD, () -> x.type(c));
        }
        due("type(0)", x.type(0), 1);
        due("type(127)", x.type(127), 2);
        for (int length = 3; length <= 120; length++) {
            due("type(32)", x.type(32), length);
        }
        refused("the text has 120 bytes", x, FULL, () -> x.type(32));
        refused("BAD comes first", x, BAD, () -> x.type(128));
        x.clear();
        due("room again", x.type(32), 1);
        // A byte beyond the range must not be taken for its last seven bits.
        LinkNames y = new LinkNames();
        y.type('h' + 128);
        y.type(';' - 128);
        due("nothing was taken", y.reads(), -10);
    }

    private static void clear() {
        sentence("Returns the length that it had.");
        LinkNames x = new LinkNames();
        due("empty", x.clear(), 0);
        x.type('h');
        due("one", x.clear(), 1);
        due("empty again", x.clear(), 0);
        Checks.write(x, "h;".repeat(60));
        due("full", x.clear(), 120);
        due("told(3)", x.told(3), 0);
        x.type('t');
        due("nothing of the old text is read", x.reads(), -11);
        due("no error", x.told(0) + x.told(1) + x.told(2), 0);
    }

    private static void readsAnswers() {
        sentence("Returns the number of orders; -10 minus the fault if the text has a fault; -1000 minus the number"
                + " (from 0) of the order whose call returned an error (why() tells more then).");
        LinkNames x = new LinkNames();
        due("no text: the least fault", x.reads(), -10);
        due("one order", Checks.reads(x, "h;"), 1);
        due("two", Checks.reads(x, "h;t1;"), 2);
        due("sixty bytes of orders", Checks.reads(x, "t1;".repeat(20)), 20);
        due("the greatest fault", Checks.reads(x, " ".repeat(120)), -130);
        due("the first order", Checks.reads(x, "t0;"), -1000);
        due("the second order", Checks.reads(x, "t1;t0;t1;"), -1001);
        due("the first of two that would be refused", Checks.reads(x, "t1;t0;t61;"), -1001);
        due("why(0)", x.why(0), BAD);
        due("the last of forty", Checks.reads(x, "t1;".repeat(39) + "t0;"), -1039);
        due("why(1)", x.why(1), 39);
        LinkNames y = Checks.withHosts(1);
        due("an order is refused for what an order before it did", Checks.reads(y, "z0;z0;"), -1001);
        due("why(0)", y.why(0), NO);
        due("or performed for it", Checks.reads(y, "z0;w0;h;c1 1 0 5 60;g1 0;"), 5);
        due("a fault comes before an error", Checks.reads(y, "t0;x"), -13);
    }

    private static void readsDoesNothing() {
        sentence("If the text has a fault, or a call returns an error, nothing is done, and this does not count as"
                + " an error.");
        LinkNames x = after(3, "s0 1 0 1 60;c1 2 0 2 60;t1;s2 3 0 3 9;");
        String orders = "h;t9;z0 1;g1 0;c2 9 0 9 9;s2 8 0 9 9;a2 1 0;w0;";
        Checks.write(x, orders + "x");
        changesNothing("a fault at the end of a text", x, -10 - orders.length(), x::reads);
        x.clear();
        x.ticks(1);
        // Only the length of the text and why() differ between these two then.
        LinkNames y = after(3, "s0 1 0 1 60;c1 2 0 2 60;t1;s2 3 0 3 9;");
        LinkNames z = after(3, "s0 1 0 1 60;c1 2 0 2 60;t1;s2 3 0 3 9;");
        due("an error at the end", Checks.reads(y, orders + "w0;"), -1008);
        due("an error at the beginning", Checks.reads(z, "w0;"), -1000);
        due("why(1)", Checks.reads(z, "t1;t1;t1;t1;t1;t1;t1;t1;w0;"), -1008);
        y.clear();
        z.clear();
        due("nothing is done", y.digest(), z.digest());
        due("not counted", y.told(0) + y.told(1) + y.told(2), 0);
        due("nothing is saved", y.told(10), 4);
        due("the message before is still new", y.ticks(1), z.ticks(1));
        due("rate", y.rate(), z.rate());
        due("rate", y.rate(), x.rate());
        y.back();
        due("back()", y.back(), 3);
        due("the state before the orders", y.told(6), 0);
        due("hosts", y.told(4), 3);
    }

    private static void textStays() {
        sentence("The text stays.");
        LinkNames x = Checks.withHosts(1);
        due("a good text", Checks.reads(x, "t1;h;"), 2);
        due("stays", x.told(3), 5);
        due("and can be read again", x.reads(), 2);
        due("hosts", x.told(4), 3);
        x.type('x');
        due("a text with a fault", x.reads(), -15);
        due("stays", x.clear(), 6);
        due("a text with an error", Checks.reads(x, "t0;"), -1000);
        due("stays", x.clear(), 3);
        sentence("(one step for all together)");
        LinkNames y = new LinkNames();
        Checks.reads(y, "h;h;t1;t1;h;t1;t1;");
        due("one step", y.told(10), 1);
        due("back()", y.back(), 0);
        due("hosts", y.told(4), 0);
        due("time", y.told(5), 0);
    }

    private static void why() {
        sentence("Returns that value; -10 (instead of BAD, but counted as BAD) if what is out of range; if there was"
                + " no such call, 0 for what = 0 and NONE for what = 1.");
        LinkNames x = Checks.withHosts(1);
        changesNothing("no such call: why(0)", x, 0, () -> x.why(0));
        changesNothing("no such call: why(1)", x, NONE, () -> x.why(1));
        for (int what : Checks.outside(0, 1)) {
            refusedWith(-10, "why(" + what + ")", x, BAD, () -> x.why(what));
        }
        due("counted as BAD", x.told(0), 6);
        Checks.reads(x, "x");
        due("a fault is no such call", x.why(0), 0);
        due("a fault is no such call", x.why(1), NONE);
        x.ticks(0);
        due("nor is an error outside a text", x.why(0), 0);
        due("nor is an error outside a text", x.why(1), NONE);
        Checks.reads(x, "t0;");
        changesNothing("BAD", x, BAD, () -> x.why(0));
        changesNothing("order 0", x, 0, () -> x.why(1));
        Checks.reads(x, "t1;w0;");
        changesNothing("NO", x, NO, () -> x.why(0));
        changesNothing("order 1", x, 1, () -> x.why(1));
        Checks.reads(x, "h;h;h;h;h;h;");
        changesNothing("FULL", x, FULL, () -> x.why(0));
        changesNothing("order 5", x, 5, () -> x.why(1));
        refusedWith(-10, "why(2)", x, BAD, () -> x.why(2));
    }

    private static void whyStays() {
        sentence("Tells why the latest call of reads() that failed by an error of an order did so. (Other calls of"
                + " reads(), and back(), do not change this.)");
        LinkNames x = Checks.withHosts(2);
        Checks.reads(x, "t1;t1;w0;");
        x.clear();
        Checks.reads(x, "t1;");
        due("a good text", x.why(0), NO);
        due("a good text", x.why(1), 2);
        Checks.reads(x, "t1;x");
        due("a fault", x.why(0), NO);
        due("a fault", x.why(1), 2);
        due("back()", x.back(), 2);
        due("back()", x.why(0), NO);
        due("back()", x.why(1), 2);
        due("back() to a state before", x.back(), 1);
        due("back()", x.why(1), 2);
        x.ticks(0);
        due("an error outside a text", x.why(0), NO);
        Checks.reads(x, "t0;");
        due("the latest one", x.why(0), BAD);
        due("the latest one", x.why(1), 0);
    }

    private static void back() {
        sentence("Returns how many saved states are left; NO if there is none.");
        LinkNames x = new LinkNames();
        refused("none", x, NO, x::back);
        x.host();
        due("the only one", x.back(), 0);
        refused("none is left", x, NO, x::back);
        for (int i = 0; i < 6; i++) {
            x.host();
        }
        for (int left = 4; left >= 0; left--) {
            due("left", x.back(), left);
            due("hosts", x.told(4), left + 1);
        }
        refused("five were kept", x, NO, x::back);
        due("hosts", x.told(4), 1);
        sentence("Returns to the latest state that was saved and has not been returned to.");
        x.ticks(1);
        x.ticks(2);
        x.ticks(4);
        due("back()", x.back(), 2);
        due("time", x.told(5), 3);
        x.ticks(8);
        due("time", x.told(5), 11);
        due("back()", x.back(), 2);
        due("time", x.told(5), 3);
        due("back()", x.back(), 1);
        due("not to the same one twice", x.told(5), 1);
        due("back()", x.back(), 0);
        due("time", x.told(5), 0);
    }

    private static void told() {
        sentence("Returns the total; BAD if what is out of range.");
        LinkNames x = after(3, "c0 1 0 5 60;t3;c1 1 0 6 60;t1;a2 1 0;");
        for (int what : Checks.outside(0, 10)) {
            refused("told(" + what + ")", x, BAD, () -> x.told(what));
        }
        x.wakes(0);
        x.type(1);
        int[] totals = {6, 1, 0, 1, 3, 4, 1, 4, 1, 1, 4};
        for (int what = 0; what <= 10; what++) {
            due("told(" + what + ")", x.told(what), totals[what]);
        }
        LinkNames y = Checks.withHosts(6);
        y.host();
        due("FULL", y.told(2), 1);
        due("at most five saved states", y.told(10), 5);
    }

    private static void digest() {
        sentence("told(0) to told(10); why(0), why(1); for each host: of() for what = 0 to 5, for each of its"
                + " records record() for what = 0 to 7, for each of its cache entries entry() for what = 0 to 4;"
                + " rate(); all(0) to all(3).");
        due("without hosts", new LinkNames().digest(), hashOf(new LinkNames()));
        LinkNames x = after(6, "s0 1 0 1 60;s0 2 0 1 60;s0 3 0 1 60;s0 4 0 1 60;s0 5 0 1 60;s1 6 0 1 60;z5 4;t1;");
        due("five records and six entries", x.digest(), hashOf(x));
        LinkNames y = after(2, "c0 1 0 1 60;c1 1 0 2 60;t1;");
        Checks.reads(y, "h;t61;");
        y.wakes(0);
        y.ticks(0);
        due("with errors", y.digest(), hashOf(y));
        changesNothing("it changes nothing", y, 0, () -> (int) (y.digest() - y.digest()));
    }

    /** The digest as the document tells it, out of the answers of the other methods. */
    private static long hashOf(LinkNames x) {
        long h = 2309;
        for (int what = 0; what <= 10; what++) {
            h = 31 * h + x.told(what);
        }
        h = 31 * (31 * h + x.why(0)) + x.why(1);
        int hosts = x.told(4);
        for (int k = 0; k < hosts; k++) {
            for (int what = 0; what <= 5; what++) {
                h = 31 * h + x.of(k, what);
            }
            int records = x.of(k, 0);
            for (int r = 0; r < records; r++) {
                for (int what = 0; what <= 7; what++) {
                    h = 31 * h + x.record(k, r, what);
                }
            }
            int entries = x.of(k, 3);
            for (int i = 0; i < entries; i++) {
                for (int what = 0; what <= 4; what++) {
                    h = 31 * h + x.entry(k, i, what);
                }
            }
        }
        h = 31 * h + x.rate();
        for (int what = 0; what <= 3; what++) {
            h = 31 * h + x.all(what);
        }
        return h;
    }

    private static void digestOverflows() {
        sentence("Starting with h = 2309, each of the following values v in order changes h to 31 * h + v (long"
                + " arithmetic with overflow):");
        // A new object has eighteen values, all 0 but why(1) = -1 as the thirteenth: 2309 * 31^18 - 31^5.
        BigInteger base = BigInteger.valueOf(31);
        BigInteger exact = BigInteger.valueOf(2309).multiply(base.pow(18)).subtract(base.pow(5));
        holds("this overflows", exact.bitLength() > 63);
        due("the low 64 bits", new LinkNames().digest(), exact.longValue());
    }
}

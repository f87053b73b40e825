/** The edges under "HOSTS AND RECORDS" and "CACHES" in the description: a method for each sentence. */
public final class HostAndCacheEdgesTest extends Edges {
    public static void main(String[] args) {
        fiveHundredAndTwelveCalls();
        sixHosts();
        timeAtFirst();
        fiveRecords();
        rangesOfRecords();
        stages();
        oneName();
        proxyIsAnotherHost();
        defended();
        sixEntries();
        oldestFirst();
        notHeard();
        heard();
        soleRecordsEndOthers();
        announced();
        end("HostAndCacheEdgesTest");
    }

    private static void fiveHundredAndTwelveCalls() {
        sentence("An object is used for at most 512 calls after it has been made");
        LinkNames x = new LinkNames();
        for (int call = 1; call <= 511; call++) {
            due("call " + call, x.ticks(60), 0);
        }
        due("call 512", x.told(5), 511 * 60);
    }

    private static void sixHosts() {
        sentence("There are at most six hosts, numbered from 0 as they come; each is awake or sleeps (awake at"
                + " first).");
        LinkNames x = new LinkNames();
        due("no host yet", x.of(0, 1), BAD);
        for (int h = 0; h < 6; h++) {
            due("host()", x.host(), h);
            due("awake at first", x.of(h, 1), 1);
            due("the next one is not there", x.of(h + 1, 1), BAD);
        }
        refused("a seventh host()", x, FULL, x::host);
        due("hosts", x.told(4), 6);
        due("the sixth can be used", x.sleeps(5, 0), 0);
        due("it sleeps", x.of(5, 1), 0);
        refused("a seventh host() while one sleeps", x, FULL, x::host);
        x.back();
        x.back();
        due("the sixth comes again", x.host(), 5);
        due("awake at first", x.of(5, 1), 1);
        LinkNames y = Checks.withHosts(1);
        Checks.reads(y, "h;s0 1 0 1 9;s1 2 0 1 9;z1 0;");
        y.back();
        due("one that comes in the place of another", y.host(), 1);
        int[] anew = {0, 1, NONE, 0, 0, 0};
        for (int what = 0; what <= 5; what++) {
            due("has nothing of it: of(1, " + what + ")", y.of(1, what), anew[what]);
        }
    }

    private static void timeAtFirst() {
        sentence("The time is 0 at first.");
        LinkNames x = new LinkNames();
        due("time", x.told(5), 0);
        x.ticks(1);
        due("time", x.told(5), 1);
    }

    private static void fiveRecords() {
        sentence("A host has at most five records, numbered from 0.");
        LinkNames x = Checks.withHosts(2);
        for (int r = 0; r < 5; r++) {
            due("record " + r + " is not there", x.record(0, r, 0), BAD);
            due("added", r % 2 == 0 ? x.claims(0, r, 0, 0, 2) : x.shares(0, r, 0, 0, 2), r);
            due("record " + r, x.record(0, r, 0), r);
        }
        refused("a sixth, sole", x, FULL, () -> x.claims(0, 5, 0, 0, 2));
        refused("a sixth, shared", x, FULL, () -> x.shares(0, 5, 0, 0, 2));
        due("there is no record 5", x.record(0, 5, 0), BAD);
        due("another host has its own", x.claims(1, 5, 0, 0, 2), 0);
        x.leaves(0, 0);
        due("room for one again", x.shares(0, 5, 0, 0, 2), 4);
        refused("but for no more", x, FULL, () -> x.claims(0, 6, 0, 0, 2));
    }

    private static void rangesOfRecords() {
        sentence("A record has a name (0 to 15), a kind (0 to 3), data (0 to 255), a life (2 to 60), and is sole or"
                + " shared.");
        LinkNames x = Checks.withHosts(2);
        x.claims(0, 0, 0, 0, 2);
        x.claims(0, 15, 3, 255, 60);
        x.shares(1, 0, 0, 0, 2);
        x.shares(1, 15, 3, 255, 60);
        record("least, sole", x, 0, 0, 0, 0, 0, 2, 0, 0, 1);
        record("greatest, sole", x, 0, 1, 15, 3, 255, 60, 0, 0, 1);
        record("least, shared", x, 1, 0, 0, 0, 0, 2, 3, 0, 0);
        record("greatest, shared", x, 1, 1, 15, 3, 255, 60, 3, 0, 0);
        x.leaves(0, 1);
        x.shares(0, 7, 1, 1, 30);
        record("shared, in the place of a sole one", x, 0, 1, 7, 1, 1, 30, 3, 0, 0);
        x.leaves(1, 1);
        x.claims(1, 7, 1, 1, 30);
        record("sole, in the place of a shared one", x, 1, 1, 7, 1, 1, 30, 0, 0, 1);
        int[][] beyond = {{-1, 0, 0, 2}, {16, 0, 0, 2}, {0, -1, 0, 2}, {0, 4, 0, 2}, {0, 0, -1, 2}, {0, 0, 256, 2},
            {0, 0, 0, 1}, {0, 0, 0, 61}};
        LinkNames y = Checks.withHosts(1);
        for (int[] a : beyond) {
            refused("claims beyond a range", y, BAD, () -> y.claims(0, a[0], a[1], a[2], a[3]));
            refused("shares beyond a range", y, BAD, () -> y.shares(0, a[0], a[1], a[2], a[3]));
        }
    }

    private static void stages() {
        sentence("It has a stage: 0, 1 or 2 (the number of probes done) or 3 (it is owned), and a wait (0 at first).");
        LinkNames x = Checks.withHosts(2);
        x.claims(0, 1, 0, 0, 60);
        for (int stage = 0; stage <= 3; stage++) {
            due("stage", x.record(0, 0, 4), stage);
            due("wait", x.record(0, 0, 5), 0);
            due("owned", x.of(0, 4), stage == 3 ? 1 : 0);
            x.ticks(1);
        }
        x.ticks(60);
        due("no stage after 3", x.record(0, 0, 4), 3);
        x.shares(0, 2, 0, 0, 60);
        due("a shared one is owned", x.record(0, 1, 4), 3);
        due("wait", x.record(0, 1, 5), 0);
        // A record that waits has its place taken by a new one, which does not wait.
        Checks.reads(x, "c0 3 0 1 60;c1 3 0 2 60;t1;");
        due("it waits", x.record(0, 2, 5), 1);
        x.leaves(0, 2);
        x.claims(0, 3, 0, 1, 60);
        due("wait 0 at first", x.record(0, 2, 5), 0);
        LinkNames y = after(1, "c0 1 0 0 60;t3;g0 0;c0 1 0 0 60;");
        due("stage 0 in the place of an owned one", y.record(0, 0, 4), 0);
        LinkNames z = after(1, "c0 1 0 0 60;t2;g0 0;s0 1 0 0 60;");
        due("stage 3 in the place of one that was not owned", z.record(0, 0, 4), 3);
    }

    private static void oneName() {
        sentence("Two records have one name if their names and kinds are equal.");
        LinkNames x = Checks.withHosts(1);
        x.claims(0, 7, 1, 9, 30);
        refused("equal name and kind, other data and life", x, NO, () -> x.claims(0, 7, 1, 8, 20));
        refused("though that one is shared", x, NO, () -> x.shares(0, 7, 1, 8, 20));
        due("another kind", x.claims(0, 7, 2, 9, 30), 1);
        due("another name", x.claims(0, 8, 1, 9, 30), 2);
        LinkNames y = after(3, "c0 7 1 9 60;t3;c1 7 2 1 60;c2 8 1 1 60;t1;");
        due("another kind is not lost", y.record(1, 0, 4), 1);
        due("another name is not lost", y.record(2, 0, 4), 1);
        LinkNames z = after(3, "c0 7 1 9 60;c1 7 2 1 60;c2 8 1 1 60;t1;");
        due("to another kind none yields", z.record(1, 0, 4), 1);
        due("to another name none yields", z.record(2, 0, 4), 1);
    }

    private static void proxyIsAnotherHost() {
        sentence("A sleeping host can have a proxy, which is another host.");
        LinkNames x = Checks.withHosts(2);
        due("awake: none", x.of(0, 2), NONE);
        refused("the host itself", x, BAD, () -> x.sleeps(0, 0));
        due("another", x.sleeps(0, 1), 0);
        due("proxy", x.of(0, 2), 1);
        due("it can", x.sleeps(1, NONE), 0);
        due("proxy", x.of(1, 2), NONE);
    }

    private static void defended() {
        sentence("A record is defended if it is owned and sole, and its host is awake or has a proxy that is awake.");
        LinkNames x = Checks.withHosts(3);
        x.claims(0, 1, 0, 0, 60);
        x.shares(0, 2, 0, 0, 60);
        for (int stage = 0; stage <= 2; stage++) {
            due("stage " + stage, x.record(0, 0, 7), 0);
            x.ticks(1);
        }
        due("owned and sole", x.record(0, 0, 7), 1);
        due("shared", x.record(0, 1, 7), 0);
        x.sleeps(0, NONE);
        due("asleep, no proxy", x.record(0, 0, 7), 0);
        x.wakes(0);
        x.sleeps(0, 1);
        due("asleep, a proxy that is awake", x.record(0, 0, 7), 1);
        due("but shared", x.record(0, 1, 7), 0);
        x.sleeps(1, 2);
        due("asleep, a proxy that sleeps, though it has a proxy that is awake", x.record(0, 0, 7), 0);
        x.wakes(0);
        due("awake", x.record(0, 0, 7), 1);
        x.claims(0, 3, 0, 0, 60);
        x.sleeps(0, 2);
        due("a proxy that is awake, but not owned", x.record(0, 2, 7), 0);
    }

    private static void sixEntries() {
        sentence("Each host has a cache with at most six entries, no two with the same name, kind and data.");
        LinkNames x = Checks.withHosts(3);
        for (int i = 0; i < 5; i++) {
            due("entries", x.of(2, 3), i);
            x.shares(0, i, 0, 0, 60);
        }
        x.shares(1, 5, 0, 0, 60);
        due("six", x.of(2, 3), 6);
        x.shares(1, 6, 0, 0, 60);
        due("no seventh", x.of(2, 3), 6);
        due("no seventh place", x.entry(2, 6, 0), NONE);
        LinkNames y = Checks.withHosts(4);
        y.shares(0, 1, 0, 5, 60);
        y.shares(1, 1, 0, 5, 60);
        due("the same once", y.of(3, 3), 1);
        y.shares(2, 1, 0, 6, 60);
        due("other data", y.of(3, 3), 2);
        y.shares(2, 1, 1, 5, 60);
        due("another kind", y.of(3, 3), 3);
        y.shares(2, 2, 0, 5, 60);
        due("another name", y.of(3, 3), 4);
    }

    private static void oldestFirst() {
        sentence("Entries are ordered by age; the oldest is first.");
        LinkNames x = after(2, "s0 9 0 1 20;s0 3 0 2 60;t1;s0 5 0 3 10;");
        entry("the oldest", x, 1, 0, 9, 0, 1, 20, 19);
        entry("the next", x, 1, 1, 3, 0, 2, 60, 59);
        entry("the newest", x, 1, 2, 5, 0, 3, 10, 10);
        due("none behind it", x.entry(1, 3, 0), NONE);
    }

    private static void notHeard() {
        sentence("If it sleeps, or has a record with this name, kind and data itself (in whatever stage), nothing"
                + " happens.");
        for (int stage = 0; stage <= 2; stage++) {
            LinkNames x = Checks.withHosts(2);
            x.claims(1, 4, 1, 7, 60);
            for (int i = 0; i < stage; i++) {
                x.ticks(1);
            }
            due("stage", x.record(1, 0, 4), stage);
            x.shares(0, 4, 1, 7, 60);
            due("has it itself, stage " + stage, x.of(1, 3), 0);
            due("it is a message all the same", x.told(6), 1);
        }
        LinkNames y = after(2, "s1 4 1 7 60;s0 4 1 7 60;");
        due("has it itself, owned", y.of(1, 3), 0);
        LinkNames z = after(3, "s0 4 1 7 60;t9;c1 4 1 7 60;s2 4 1 7 30;");
        entry("an entry of the same stays as it was", z, 1, 0, 4, 1, 7, 60, 51);
        LinkNames w = after(3, "s0 4 1 9 60;c1 4 1 7 60;c2 4 1 7 60;t3;");
        due("the sole one was announced twice", w.told(6), 3);
        due("yet no entry with other data ends", w.entry(1, 0, 4), 57);
        LinkNames v = after(2, "c1 4 1 7 60;s0 4 1 8 60;s0 4 2 7 60;s0 5 1 7 60;");
        due("other data, another kind, another name are heard", v.of(1, 3), 3);
        LinkNames u = after(3, "s0 4 1 7 60;t9;z1;s2 4 1 7 30;s2 5 1 7 30;");
        due("a sleeper hears nothing", u.of(1, 3), 1);
        entry("nor anything anew", u, 1, 0, 4, 1, 7, 60, 51);
        LinkNames s = after(3, "s0 4 1 9 60;z1;c2 4 1 7 60;t3;");
        due("nor does it end an entry", s.entry(1, 0, 4), 57);
    }

    private static void heard() {
        sentence("Otherwise, an entry with this name, kind and data is removed, if there is one; then, if there are"
                + " six entries, the oldest one is removed; then an entry with the name, kind, data and life of the"
                + " record is added as the newest one; its end is the time plus the life.");
        LinkNames x = after(4, "s0 0 0 9 60;s0 1 0 9 60;s0 2 0 9 60;s0 3 0 9 60;s0 4 0 9 60;s1 5 0 9 60;t7;");
        due("six entries", x.of(3, 3), 6);
        x.shares(2, 0, 0, 9, 2);
        due("the oldest is heard again: no other is removed", x.of(3, 3), 6);
        due("the second is the oldest now", x.entry(3, 0, 0), 1);
        entry("the newest has the new life", x, 3, 5, 0, 0, 9, 2, 2);
        x.shares(2, 3, 0, 9, 60);
        due("one within is heard again: no other is removed", x.of(3, 3), 6);
        due("the oldest stays", x.entry(3, 0, 0), 1);
        entry("the newest", x, 3, 5, 3, 0, 9, 60, 60);
        x.shares(2, 6, 3, 255, 60);
        due("a new one: still six", x.of(3, 3), 6);
        due("the oldest is removed", x.entry(3, 0, 0), 2);
        entry("the newest", x, 3, 5, 6, 3, 255, 60, 60);
        LinkNames y = after(2, "t60;s0 1 0 1 2;s0 2 0 2 60;");
        entry("the least life", y, 1, 0, 1, 0, 1, 2, 2);
        entry("the greatest life", y, 1, 1, 2, 0, 2, 60, 60);
        LinkNames z = after(3, "s0 0 0 9 60;s0 1 0 9 60;s0 2 0 9 60;s0 3 0 9 60;s0 4 0 9 60;");
        z.shares(1, 5, 0, 9, 60);
        due("five entries and a new one: none is removed", z.entry(2, 0, 0), 0);
        due("six", z.of(2, 3), 6);
    }

    private static void soleRecordsEndOthers() {
        sentence("Then, if the record is sole, each other entry with the same name and kind (and other data) whose"
                + " end is greater than the time plus 1 gets the time plus 1 as its end.");
        // The sole record is announced at the time 3, so 4 is the time plus 1.
        LinkNames x = after(5, "s0 1 0 5 4;s1 1 0 6 5;s2 1 0 7 60;s0 1 1 5 60;s0 2 0 5 60;c3 1 0 8 60;t3;");
        entry("an end that is the time plus 1 stays", x, 4, 0, 1, 0, 5, 4, 1);
        entry("an end that is the time plus 2", x, 4, 1, 1, 0, 6, 5, 1);
        entry("an end far off", x, 4, 2, 1, 0, 7, 60, 1);
        entry("another kind", x, 4, 3, 1, 1, 5, 60, 57);
        entry("another name", x, 4, 4, 2, 0, 5, 60, 57);
        entry("the sole one itself", x, 4, 5, 1, 0, 8, 60, 60);
        LinkNames y = after(3, "s0 1 0 5 60;s1 1 0 6 60;");
        due("a shared record ends none", y.entry(2, 0, 4), 60);
        LinkNames z = after(3, "c0 1 0 5 9;t3;s1 1 0 6 60;");
        due("nor the entry of a sole one", z.entry(2, 0, 4), 9);
    }

    private static void announced() {
        sentence("That a host announces a record means: all other hosts hear it, in ascending order, and the number"
                + " of messages increases by 1.");
        LinkNames x = Checks.withHosts(1);
        x.shares(0, 1, 0, 5, 60);
        due("alone on the link: a message", x.told(6), 1);
        due("which it does not hear", x.of(0, 3), 0);
        LinkNames y = Checks.withHosts(6);
        y.shares(3, 1, 0, 5, 60);
        due("one message for five hosts", y.told(6), 1);
        for (int h = 0; h < 6; h++) {
            due("host " + h, y.of(h, 3), h == 3 ? 0 : 1);
        }
        LinkNames z = after(2, "z1;s0 1 0 5 60;");
        due("a message that nobody hears", z.told(6), 1);
    }
}

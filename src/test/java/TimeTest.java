/** Promises 8 and 9: ticks, with probing, conflicts and announcements, and the rate. */
public final class TimeTest {
    private static final Checks CHECKS = new Checks();

    private static void due(String call, long got, long want) {
        CHECKS.due(call, got, want);
    }

    public static void main(String[] args) {
        range();
        threeProbes();
        yields();
        yieldsInOrder();
        loses();
        losesOnlyToDefended();
        moved();
        newRecordsDoNotWait();
        sleepersDoNotProbe();
        entriesEnd();
        rate();
        smallRates();
        CHECKS.end("TimeTest");
    }

    private static void range() {
        LinkNames x = new LinkNames();
        for (int n : Checks.outside(1, 60)) {
            due("ticks(" + n + ")", x.ticks(n), LinkNames.BAD);
        }
        due("the time stands", x.told(5), 0);
        due("nothing saved", x.told(10), 0);
        due("BAD counted", x.told(0), 6);
        due("ticks(1)", x.ticks(1), 0);
        due("ticks(60)", x.ticks(60), 0);
        due("time", x.told(5), 61);
        due("one step each", x.told(10), 2);
    }

    private static void threeProbes() {
        LinkNames x = Checks.withHosts(3);
        x.claims(1, 7, 1, 5, 30);
        for (int stage = 1; stage <= 2; stage++) {
            due("ticks(1)", x.ticks(1), 0);
            due("stage", x.record(1, 0, 4), stage);
            due("probes", x.told(7), stage);
            due("no entry yet", x.all(0), 0);
        }
        due("ticks(1)", x.ticks(1), 1);
        due("owned", x.record(1, 0, 4), 3);
        due("both others heard", x.all(0), 2);
        due("not itself", x.of(1, 3), 0);
        due("end", x.entry(0, 0, 4), 30);
        due("life", x.entry(0, 0, 3), 30);
        due("no more probes", x.ticks(9), 0);
        due("probes", x.told(7), 3);
        due("messages", x.told(6), 1);
    }

    private static void yields() {
        LinkNames x = Checks.withHosts(2);
        x.claims(0, 3, 0, 8, 9);
        x.claims(1, 3, 0, 8, 9);
        x.ticks(1);
        due("equal data: no one yields", x.record(0, 0, 4) + x.record(1, 0, 4), 2);
        LinkNames y = Checks.withHosts(2);
        y.claims(0, 3, 0, 9, 9);
        y.ticks(1);
        y.claims(1, 3, 0, 8, 9);
        y.ticks(1);
        due("the greater one goes on", y.record(0, 0, 4), 2);
        due("the lesser one yields", y.record(1, 0, 4), 0);
        due("and waits", y.record(1, 0, 5), 1);
        due("yielding is a probe", y.told(7), 3);
        due("yielding is no move", y.told(8), 0);
        due("ticks(1)", y.ticks(1), 1);
        due("waiting is no probe", y.told(7), 4);
        due("waited", y.record(1, 0, 5), 0);
        due("stage", y.record(1, 0, 4), 0);
        y.ticks(1);
        due("then it loses", y.record(1, 0, 0), 4);
        due("stage", y.record(1, 0, 4), 0);
        due("moves", y.told(8), 1);
    }

    /** A host that comes later in the tick sees what those before it have done in the same tick. */
    private static void yieldsInOrder() {
        LinkNames x = Checks.withHosts(2);
        x.claims(0, 3, 0, 9, 9);
        x.ticks(2);
        x.claims(1, 3, 0, 8, 9);
        x.ticks(1);
        due("host 0 owns it", x.record(0, 0, 4), 3);
        due("host 1 loses in the same tick", x.record(1, 0, 0), 4);
        due("without a wait", x.record(1, 0, 5), 0);
        LinkNames y = Checks.withHosts(2);
        y.claims(1, 3, 0, 9, 9);
        y.ticks(2);
        y.claims(0, 3, 0, 8, 9);
        y.ticks(1);
        due("host 0 comes first, so it yields", y.record(0, 0, 0), 3);
        due("with a wait", y.record(0, 0, 5), 1);
        due("host 1 owns it", y.record(1, 0, 4), 3);
        LinkNames z = Checks.withHosts(3);
        z.claims(0, 3, 0, 9, 9);
        z.claims(1, 3, 1, 10, 9);
        z.claims(2, 4, 0, 10, 9);
        z.ticks(1);
        due("another kind or name is no conflict", z.record(0, 0, 4), 1);
    }

    private static void loses() {
        LinkNames x = Checks.withHosts(3);
        x.claims(0, 15, 2, 5, 60);
        x.claims(1, 0, 2, 6, 60);
        x.ticks(3);
        x.claims(2, 15, 2, 200, 60);
        x.ticks(1);
        due("0 after 15", x.record(2, 0, 0), 0);
        due("kind stays", x.record(2, 0, 1), 2);
        due("data stay", x.record(2, 0, 2), 200);
        x.ticks(1);
        due("it loses again", x.record(2, 0, 0), 1);
        due("moves", x.told(8), 2);
        due("ticks(3)", x.ticks(3), 1);
        due("owned", x.record(2, 0, 4), 3);
        LinkNames y = Checks.withHosts(2);
        y.claims(0, 3, 0, 5, 60);
        y.ticks(3);
        y.claims(1, 3, 0, 5, 60);
        y.ticks(3);
        due("the same data do not lose", y.record(1, 0, 4), 3);
        due("two owners", y.owner(3, 0, 2), 2);
    }

    private static void losesOnlyToDefended() {
        LinkNames x = Checks.withHosts(4);
        x.shares(0, 3, 0, 5, 60);
        x.claims(1, 3, 0, 6, 60);
        due("a shared record does not defend", x.ticks(3), 1);
        due("name", x.record(1, 0, 0), 3);
        x.sleeps(1, LinkNames.NONE);
        x.claims(2, 3, 0, 7, 60);
        x.ticks(2);
        due("nor one whose host sleeps", x.record(2, 0, 4), 2);
        x.wakes(1);
        x.sleeps(1, 2);
        x.ticks(1);
        due("a proxy defends even against itself", x.record(2, 0, 0), 4);
        due("who loses begins anew", x.record(2, 0, 4), 0);
        x.sleeps(2, 3);
        x.claims(3, 3, 0, 8, 60);
        due("a sleeping proxy does not", x.ticks(3), 1);
        due("name", x.record(3, 0, 0), 3);
    }

    /** A host that has lost a name may come to have two records of one name. */
    private static void moved() {
        LinkNames x = Checks.withHosts(2);
        x.claims(0, 3, 0, 5, 60);
        x.ticks(3);
        x.claims(1, 4, 0, 70, 60);
        x.ticks(3);
        x.claims(1, 3, 0, 60, 60);
        x.ticks(4);
        due("two records of one name", x.record(1, 0, 0), 4);
        due("two records of one name", x.record(1, 1, 0), 4);
        due("both owned", x.of(1, 4), 2);
        due("one host", x.owner(4, 0, 2), 1);
        due("the first record's data", x.owner(4, 0, 1), 70);
        due("host 0 keeps both, the older until the next tick", x.finds(0, 4, 0, 1), 2);
        due("the older one's end", x.entry(0, 0, 4), 1);
        x.ticks(1);
        due("host 0 keeps one", x.finds(0, 4, 0, 1), 1);
        due("a question about both", x.asks(0, 4, 0), 1);
        due("one was known", x.told(9), 1);
    }

    private static void newRecordsDoNotWait() {
        LinkNames x = Checks.withHosts(2);
        x.claims(0, 3, 0, 5, 60);
        x.claims(1, 3, 0, 6, 60);
        x.ticks(1);
        due("it waits", x.record(0, 0, 5), 1);
        x.leaves(0, 0);
        x.claims(0, 4, 0, 5, 60);
        due("the next one does not", x.record(0, 0, 5), 0);
        x.shares(1, 9, 0, 5, 60);
        x.leaves(1, 1);
        x.claims(1, 9, 0, 5, 60);
        due("nor is it owned at once", x.record(1, 1, 4), 0);
        due("it is sole", x.record(1, 1, 6), 1);
        x.leaves(1, 1);
        x.shares(1, 9, 0, 5, 60);
        due("and a shared one is not", x.record(1, 1, 6), 0);
    }

    private static void sleepersDoNotProbe() {
        LinkNames x = Checks.withHosts(2);
        x.claims(0, 3, 0, 5, 60);
        x.claims(1, 3, 0, 6, 60);
        x.ticks(1);
        due("it waits", x.record(0, 0, 5), 1);
        x.sleeps(0, 1);
        x.ticks(1);
        due("a sleeper's wait stands", x.record(0, 0, 5), 1);
        due("probes", x.told(7), 3);
        x.wakes(0);
        due("a record that is not owned is not announced", x.told(6), 0);
        due("and keeps its wait", x.record(0, 0, 5), 1);
        LinkNames y = Checks.withHosts(2);
        y.claims(0, 3, 0, 5, 60);
        y.claims(1, 3, 0, 6, 60);
        y.sleeps(1, 0);
        due("a sleeper's probe is not seen", y.ticks(3), 1);
        due("owned", y.record(0, 0, 4), 3);
    }

    private static void entriesEnd() {
        LinkNames x = Checks.withHosts(3);
        x.shares(0, 1, 0, 1, 2);
        x.shares(0, 2, 0, 2, 3);
        x.sleeps(2, LinkNames.NONE);
        x.ticks(1);
        due("both stay", x.of(1, 3), 2);
        x.ticks(1);
        due("an end that is the time", x.of(1, 3), 1);
        due("in a sleeper's cache too", x.of(2, 3), 1);
        due("the other", x.entry(1, 0, 2), 2);
        x.ticks(1);
        due("none", x.all(0), 0);
    }

    private static void rate() {
        LinkNames x = Checks.withHosts(2);
        x.shares(0, 1, 0, 1, 60);
        x.shares(0, 2, 0, 1, 60);
        due("before a tick", x.rate(), 0);
        x.ticks(1);
        due("two messages", x.rate(), Float.floatToIntBits(0.5f));
        x.ticks(1);
        due("none since", x.rate(), Float.floatToIntBits(0.375f));
        x.asks(1, 9, 0);
        x.leaves(0, 0);
        x.claims(1, 5, 0, 1, 60);
        x.ticks(2);
        due("a goodbye", x.rate(), Float.floatToIntBits((0.375f * 0.75f + 0.25f) * 0.75f));
        x.ticks(1);
        due("a message within the tick", x.rate(),
                Float.floatToIntBits((0.375f * 0.75f + 0.25f) * 0.75f * 0.75f + 0.25f));
        x.back();
        due("back", x.rate(), Float.floatToIntBits((0.375f * 0.75f + 0.25f) * 0.75f));
        x.ticks(1);
        due("the same again", x.rate(), Float.floatToIntBits((0.375f * 0.75f + 0.25f) * 0.75f * 0.75f + 0.25f));
    }

    private static void smallRates() {
        LinkNames x = Checks.withHosts(1);
        float rate = 0;
        int waiting = 0;
        for (int r = 0; r < 5; r++) {
            x.shares(0, r, 0, 1, 60);
            waiting++;
        }
        for (int i = 0; i < 20; i++) {
            x.leaves(0, 4);
            x.shares(0, 9, 0, 1, 60);
            waiting += 2;
        }
        // From the greatest rates down to those that have no leading 1, and to the least that stays.
        for (int i = 1; i <= 400; i++) {
            rate = rate * 0.75f + (float) waiting * 0.25f;
            waiting = 0;
            if (i % 2 == 0) {
                x.ticks(2);
                due("rate after " + i + " ticks", x.rate(), Float.floatToIntBits(rate));
            }
        }
        CHECKS.holds("the least rates were reached", rate > 0 && rate < Float.MIN_NORMAL);
    }
}

/** Promises 10 to 14, and how a host hears: asks, entry, finds, owner, all. */
public final class QuestionsTest {
    private static final Checks CHECKS = new Checks();

    private static void due(String call, long got, long want) {
        CHECKS.due(call, got, want);
    }

    public static void main(String[] args) {
        wrongQuestions();
        halfLife();
        knownWhenItBegins();
        onceInAQuestion();
        proxyAnswers();
        onlyOwned();
        hearing();
        soleRecordsEndOthers();
        ownRecordsAreNotHeard();
        entries();
        finds();
        owners();
        totals();
        CHECKS.end("QuestionsTest");
    }

    private static void wrongQuestions() {
        LinkNames x = Checks.withHosts(2);
        for (int h : new int[] {-1, 2, 6, Integer.MIN_VALUE, Integer.MAX_VALUE}) {
            due("asks(" + h + ", 0, 0)", x.asks(h, 0, 0), LinkNames.BAD);
        }
        for (int name : Checks.outside(0, 15)) {
            due("asks(0, " + name + ", 0)", x.asks(0, name, 0), LinkNames.BAD);
        }
        for (int kind : Checks.outside(0, 3)) {
            due("asks(0, 0, " + kind + ")", x.asks(0, 0, kind), LinkNames.BAD);
        }
        due("nothing saved", x.told(10), 2);
        due("asks(0, 15, 3)", x.asks(0, 15, 3), 0);
        due("saved though nothing changes", x.told(10), 3);
        x.sleeps(0, 1);
        due("asleep", x.asks(0, 0, 0), LinkNames.NO);
        due("BAD before NO", x.asks(0, 16, 0), LinkNames.BAD);
        due("BAD counted", x.told(0), 18);
        due("NO counted", x.told(1), 1);
    }

    private static void halfLife() {
        for (int life : new int[] {10, 11}) {
            LinkNames x = Checks.withHosts(2);
            x.shares(0, 1, 0, 7, life);
            x.ticks(5);
            // 2 * 5 is at least 10; 2 * 6 is at least 11.
            due("life " + life + ": known at half of it", x.asks(1, 1, 0), 0);
            due("suppressed", x.told(9), 1);
            due("no message", x.told(6), 1);
            x.ticks(1);
            due("life " + life + ": not known after half of it", x.asks(1, 1, 0), 1);
            due("suppressed", x.told(9), 1);
            due("a message", x.told(6), 2);
            due("the entry is fresh", x.entry(1, 0, 4), life);
            due("known again", x.asks(1, 1, 0), 0);
        }
    }

    /** The first answer takes the place of the entry of the second in a full cache, which stays known all the same. */
    private static void knownWhenItBegins() {
        LinkNames x = Checks.withHosts(3);
        x.shares(1, 1, 0, 20, 60);
        for (int name = 2; name <= 5; name++) {
            x.shares(1, name, 0, 7, 60);
        }
        x.shares(0, 9, 0, 7, 60);
        due("full", x.of(2, 3), 6);
        due("oldest", x.entry(2, 0, 2), 20);
        x.sleeps(2, LinkNames.NONE);
        x.shares(0, 1, 0, 10, 60);
        x.wakes(2);
        due("one is announced, one was known", x.asks(2, 1, 0), 1);
        due("suppressed", x.told(9), 1);
        due("the known one has gone", x.finds(2, 1, 0, 0), 10);
        due("the known one has gone", x.finds(2, 1, 0, 1), 1);
    }

    private static void onceInAQuestion() {
        LinkNames x = Checks.withHosts(5);
        x.sleeps(4, LinkNames.NONE);
        x.shares(0, 1, 0, 7, 60);
        x.shares(1, 1, 0, 7, 50);
        x.shares(2, 1, 0, 8, 60);
        x.shares(3, 1, 0, 7, 60);
        x.wakes(4);
        due("7 once and 8", x.asks(4, 1, 0), 2);
        due("suppressed", x.told(9), 2);
        due("of the first host", x.entry(4, 0, 3), 60);
        due("its data", x.entry(4, 0, 2), 7);
        due("then 8", x.entry(4, 1, 2), 8);
        due("not of the asking host itself", x.asks(2, 1, 0), 0);
        due("suppressed, as all three know 7", x.told(9), 5);
    }

    private static void proxyAnswers() {
        LinkNames x = Checks.withHosts(4);
        x.sleeps(2, LinkNames.NONE);
        x.sleeps(3, LinkNames.NONE);
        x.shares(0, 1, 0, 7, 60);
        x.wakes(2);
        x.wakes(3);
        x.sleeps(0, 2);
        due("the proxy itself asks", x.asks(2, 1, 0), 1);
        due("and does not hear it", x.of(2, 3), 0);
        due("but others do", x.of(3, 3), 1);
        due("messages", x.told(6), 2);
        x.ticks(40);
        due("another asks", x.asks(3, 1, 0), 1);
        due("it hears it", x.entry(3, 0, 4), 60);
        due("the proxy does not hear itself", x.of(2, 3), 0);
        due("the sleeper neither", x.of(0, 3), 0);
        x.ticks(40);
        x.sleeps(2, 1);
        due("the proxy sleeps: skipped", x.asks(3, 1, 0), 0);
        due("not suppressed either", x.told(9), 0);
        due("host 1 neither", x.asks(1, 1, 0), 0);
    }

    private static void onlyOwned() {
        LinkNames x = Checks.withHosts(2);
        x.claims(0, 1, 0, 7, 6);
        x.ticks(2);
        due("not owned", x.asks(1, 1, 0), 0);
        x.ticks(1);
        due("known", x.asks(1, 1, 0), 0);
        x.ticks(4);
        due("owned", x.asks(1, 1, 0), 1);
        x.ticks(4);
        due("another kind", x.asks(1, 1, 1), 0);
        due("another name", x.asks(1, 0, 0), 0);
        due("suppressed", x.told(9), 1);
    }

    private static void hearing() {
        LinkNames x = Checks.withHosts(3);
        x.shares(0, 1, 0, 1, 30);
        x.shares(0, 2, 0, 2, 30);
        x.shares(1, 1, 0, 1, 20);
        due("the entry is taken anew, with the newer life", x.entry(2, 1, 3), 20);
        due("as the newest", x.entry(2, 1, 0), 1);
        due("no second one", x.of(2, 3), 2);
        x.shares(0, 3, 0, 3, 30);
        x.shares(0, 4, 0, 4, 30);
        x.shares(0, 5, 0, 5, 30);
        x.shares(1, 6, 0, 6, 30);
        due("six", x.of(2, 3), 6);
        x.ticks(16);
        due("announced again", x.asks(2, 1, 0), 1);
        due("a known entry takes no other's place", x.of(2, 3), 6);
        due("the oldest stays", x.entry(2, 0, 0), 2);
        due("it is the newest", x.entry(2, 5, 0), 1);
        x.shares(1, 7, 0, 7, 30);
        due("still six", x.of(2, 3), 6);
        due("the oldest has gone", x.entry(2, 0, 0), 3);
        due("the newest", x.entry(2, 5, 0), 7);
        x.sleeps(2, LinkNames.NONE);
        x.shares(1, 8, 0, 8, 30);
        due("a sleeper does not hear", x.entry(2, 5, 0), 7);
    }

    private static void soleRecordsEndOthers() {
        LinkNames x = Checks.withHosts(4);
        x.shares(0, 1, 0, 1, 60);
        x.shares(0, 1, 1, 1, 60);
        x.shares(1, 1, 0, 2, 60);
        due("a shared record ends no other", x.finds(3, 1, 0, 2), 60);
        due("two", x.finds(3, 1, 0, 1), 2);
        x.claims(2, 1, 0, 3, 60);
        x.ticks(3);
        due("the first ends soon", x.entry(3, 0, 4), 1);
        due("another kind does not", x.entry(3, 1, 4), 57);
        due("the second ends soon", x.entry(3, 2, 4), 1);
        due("the sole one does not", x.entry(3, 3, 4), 60);
        x.ticks(1);
        due("they have ended", x.finds(3, 1, 0, 1), 1);
        due("the data", x.finds(3, 1, 0, 0), 3);
    }

    private static void ownRecordsAreNotHeard() {
        LinkNames x = Checks.withHosts(2);
        x.claims(1, 1, 0, 5, 30);
        x.shares(0, 1, 0, 5, 30);
        due("in whatever stage", x.of(1, 3), 0);
        LinkNames y = Checks.withHosts(2);
        y.claims(1, 1, 0, 5, 30);
        y.shares(0, 1, 0, 6, 30);
        due("other data are heard", y.of(1, 3), 1);
        LinkNames z = Checks.withHosts(2);
        z.shares(1, 1, 0, 9, 30);
        z.shares(1, 2, 0, 5, 30);
        z.claims(0, 1, 0, 5, 30);
        z.shares(0, 2, 0, 5, 30);
        z.ticks(3);
        due("an own record's entry is not heard anew, nor are others ended", z.entry(0, 0, 4), 27);
        due("nor this", z.entry(0, 1, 4), 27);
        due("host 1 heard the sole one only", z.of(1, 3), 1);
    }

    private static void entries() {
        LinkNames x = Checks.withHosts(2);
        x.shares(0, 15, 3, 255, 60);
        x.ticks(7);
        int[] values = {15, 3, 255, 60, 53};
        for (int what = 0; what < values.length; what++) {
            due("entry(1, 0, " + what + ")", x.entry(1, 0, what), values[what]);
            due("entry(1, 1, " + what + ")", x.entry(1, 1, what), LinkNames.NONE);
            due("entry(0, 0, " + what + ")", x.entry(0, 0, what), LinkNames.NONE);
        }
        due("far behind", x.entry(1, Integer.MAX_VALUE, 0), LinkNames.NONE);
        due("NONE is no error", x.told(0) + x.told(1) + x.told(2), 0);
        for (int what : Checks.outside(0, 4)) {
            due("entry(1, 0, " + what + ")", x.entry(1, 0, what), LinkNames.BAD);
            due("BAD before NONE", x.entry(1, 5, what), LinkNames.BAD);
        }
        for (int h : new int[] {-1, 2, 6, Integer.MIN_VALUE, Integer.MAX_VALUE}) {
            due("entry(" + h + ", 0, 0)", x.entry(h, 0, 0), LinkNames.BAD);
        }
        due("entry(1, -1, 0)", x.entry(1, -1, 0), LinkNames.BAD);
        due("entry(1, least, 0)", x.entry(1, Integer.MIN_VALUE, 0), LinkNames.BAD);
        due("BAD counted", x.told(0), 19);
    }

    private static void finds() {
        LinkNames x = Checks.withHosts(4);
        x.shares(0, 1, 0, 9, 40);
        x.shares(1, 1, 0, 4, 20);
        x.shares(2, 1, 1, 5, 60);
        x.shares(2, 2, 0, 6, 60);
        x.ticks(3);
        due("the newest one's data", x.finds(3, 1, 0, 0), 4);
        due("number", x.finds(3, 1, 0, 1), 2);
        due("the greatest end", x.finds(3, 1, 0, 2), 37);
        due("none: data", x.finds(3, 3, 0, 0), LinkNames.NONE);
        due("none: number", x.finds(3, 3, 0, 1), 0);
        due("none: end", x.finds(3, 3, 0, 2), LinkNames.NONE);
        due("data 0 are data", x.shares(2, 15, 3, 0, 2), 2);
        due("data 0", x.finds(3, 15, 3, 0), 0);
        for (int what : Checks.outside(0, 2)) {
            due("finds(3, 1, 0, " + what + ")", x.finds(3, 1, 0, what), LinkNames.BAD);
        }
        for (int name : Checks.outside(0, 15)) {
            due("finds(3, " + name + ", 0, 1)", x.finds(3, name, 0, 1), LinkNames.BAD);
        }
        for (int kind : Checks.outside(0, 3)) {
            due("finds(3, 1, " + kind + ", 1)", x.finds(3, 1, kind, 1), LinkNames.BAD);
        }
        for (int h : new int[] {-1, 4, 6, Integer.MIN_VALUE, Integer.MAX_VALUE}) {
            due("finds(" + h + ", 1, 0, 1)", x.finds(h, 1, 0, 1), LinkNames.BAD);
        }
        due("BAD counted", x.told(0), 23);
    }

    private static void owners() {
        LinkNames x = Checks.withHosts(4);
        x.shares(0, 15, 3, 50, 60);
        x.claims(1, 15, 3, 40, 60);
        x.claims(3, 15, 3, 40, 60);
        x.ticks(2);
        due("none yet", x.owner(15, 3, 0), LinkNames.NONE);
        due("none yet", x.owner(15, 3, 1), LinkNames.NONE);
        due("none yet", x.owner(15, 3, 2), 0);
        x.ticks(1);
        due("the smallest", x.owner(15, 3, 0), 1);
        due("its data", x.owner(15, 3, 1), 40);
        due("hosts", x.owner(15, 3, 2), 2);
        x.sleeps(1, LinkNames.NONE);
        due("asleep without a proxy", x.owner(15, 3, 0), 3);
        due("hosts", x.owner(15, 3, 2), 1);
        x.sleeps(3, 2);
        due("asleep with a proxy", x.owner(15, 3, 0), 3);
        due("NONE is no error", x.told(0), 0);
        for (int what : Checks.outside(0, 2)) {
            due("owner(15, 3, " + what + ")", x.owner(15, 3, what), LinkNames.BAD);
        }
        for (int name : Checks.outside(0, 15)) {
            due("owner(" + name + ", 3, 0)", x.owner(name, 3, 0), LinkNames.BAD);
        }
        for (int kind : Checks.outside(0, 3)) {
            due("owner(15, " + kind + ", 0)", x.owner(15, kind, 0), LinkNames.BAD);
        }
        due("BAD counted", x.told(0), 18);
    }

    private static void totals() {
        LinkNames x = Checks.withHosts(3);
        x.shares(0, 1, 0, 1, 60);
        x.shares(0, 2, 0, 2, 60);
        x.claims(1, 3, 0, 3, 60);
        x.claims(2, 4, 0, 4, 60);
        due("entries", x.all(0), 4);
        due("all of owned records", x.all(1), 0);
        due("not owned", x.all(2), 2);
        due("awake", x.all(3), 3);
        x.sleeps(2, LinkNames.NONE);
        x.leaves(0, 0);
        due("entries of a record that has left", x.all(1), 2);
        x.claims(1, 1, 0, 1, 60);
        due("not owned yet by host 1", x.all(1), 2);
        x.ticks(3);
        due("host 1 owns it: host 2 still has it", x.all(1), 0);
        due("not owned", x.all(2), 1);
        due("awake", x.all(3), 2);
        x.sleeps(1, LinkNames.NONE);
        due("a sleeper owns it too", x.all(1), 0);
        for (int what : Checks.outside(0, 3)) {
            due("all(" + what + ")", x.all(what), LinkNames.BAD);
        }
        due("BAD counted", x.told(0), 6);
    }
}

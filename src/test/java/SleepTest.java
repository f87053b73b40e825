/** Promises 15 and 16: sleeps and wakes. */
public final class SleepTest {
    private static final Checks CHECKS = new Checks();

    private static void due(String call, long got, long want) {
        CHECKS.due(call, got, want);
    }

    public static void main(String[] args) {
        wrongCalls();
        fallingAsleep();
        wakingUp();
        wakingToARival();
        wakingAsAProxy();
        CHECKS.end("SleepTest");
    }

    private static void wrongCalls() {
        LinkNames x = Checks.withHosts(3);
        for (int h : new int[] {-1, 3, 6, Integer.MIN_VALUE, Integer.MAX_VALUE}) {
            due("sleeps(" + h + ", NONE)", x.sleeps(h, LinkNames.NONE), LinkNames.BAD);
            due("wakes(" + h + ")", x.wakes(h), LinkNames.BAD);
        }
        for (int p : new int[] {-2, 0, 3, 6, Integer.MIN_VALUE, Integer.MAX_VALUE}) {
            due("sleeps(0, " + p + ")", x.sleeps(0, p), LinkNames.BAD);
        }
        due("wakes one that is awake", x.wakes(0), LinkNames.NO);
        due("sleeps", x.sleeps(1, LinkNames.NONE), 0);
        due("sleeps again", x.sleeps(1, LinkNames.NONE), LinkNames.NO);
        due("sleeps again", x.sleeps(1, 0), LinkNames.NO);
        due("the proxy sleeps", x.sleeps(0, 1), LinkNames.NO);
        due("BAD before NO", x.sleeps(1, 1), LinkNames.BAD);
        due("BAD before NO", x.sleeps(1, 3), LinkNames.BAD);
        due("BAD counted", x.told(0), 18);
        due("NO counted", x.told(1), 4);
        due("saved: three hosts and one sleep", x.told(10), 4);
    }

    private static void fallingAsleep() {
        LinkNames x = Checks.withHosts(3);
        x.shares(1, 9, 0, 1, 60);
        x.shares(0, 1, 0, 1, 60);
        x.claims(0, 2, 0, 1, 60);
        due("how many are owned", x.sleeps(0, 1), 1);
        due("no message", x.told(6), 2);
        due("it keeps its cache", x.of(0, 3), 1);
        due("asleep", x.of(0, 1), 0);
        due("proxy", x.of(0, 2), 1);
        due("the proxy may fall asleep too", x.sleeps(1, 2), 1);
        due("and stays its proxy", x.of(0, 2), 1);
        due("all asleep", x.sleeps(2, LinkNames.NONE), 0);
        due("none is awake", x.all(3), 0);
        due("time passes all the same", x.ticks(3), 0);
        due("no probe", x.told(7), 0);
        due("the cache ends", x.entry(0, 0, 4), 57);
    }

    private static void wakingUp() {
        LinkNames x = Checks.withHosts(3);
        x.shares(0, 1, 0, 1, 60);
        x.claims(0, 2, 0, 1, 60);
        x.ticks(3);
        x.claims(0, 3, 0, 1, 60);
        x.sleeps(0, 2);
        x.ticks(9);
        due("the owned ones are announced", x.wakes(0), 2);
        due("messages", x.told(6), 4);
        due("awake", x.of(0, 1), 1);
        due("no proxy", x.of(0, 2), LinkNames.NONE);
        due("nobody's proxy", x.of(2, 5), 0);
        due("fresh", x.finds(1, 1, 0, 2), 60);
        due("fresh", x.finds(1, 2, 0, 2), 60);
        due("not the one that is not owned", x.finds(1, 3, 0, 1), 0);
        due("it goes on probing", x.ticks(3), 1);
    }

    private static void wakingToARival() {
        LinkNames x = Checks.withHosts(3);
        x.claims(0, 1, 0, 1, 60);
        x.shares(0, 2, 0, 1, 60);
        x.claims(0, 3, 0, 1, 60);
        x.ticks(3);
        x.sleeps(0, LinkNames.NONE);
        x.claims(1, 1, 0, 9, 60);
        x.claims(1, 2, 0, 9, 60);
        x.claims(1, 3, 0, 1, 60);
        x.ticks(3);
        due("all three are owned", x.of(1, 4), 3);
        due("the shared one and the one with the same data", x.wakes(0), 2);
        due("the rival's name has to be probed for", x.record(0, 0, 4), 0);
        due("wait", x.record(0, 0, 5), 0);
        due("no move yet", x.told(8), 0);
        due("name", x.record(0, 0, 0), 1);
        due("the shared one stays owned", x.record(0, 1, 4), 3);
        due("the same data stay owned", x.record(0, 2, 4), 3);
        x.ticks(1);
        due("it loses", x.record(0, 0, 0), 2);
        due("a move", x.told(8), 1);
        LinkNames y = Checks.withHosts(3);
        y.claims(0, 1, 0, 1, 60);
        y.ticks(3);
        y.sleeps(0, LinkNames.NONE);
        y.claims(1, 1, 0, 9, 60);
        y.ticks(3);
        y.sleeps(1, LinkNames.NONE);
        due("a rival that is not defended", y.wakes(0), 1);
        due("now the other one yields", y.wakes(1), 0);
    }

    /** When a proxy wakes, what it is the proxy of is defended again, even beside a rival. */
    private static void wakingAsAProxy() {
        LinkNames x = Checks.withHosts(3);
        x.claims(0, 1, 0, 1, 60);
        x.ticks(3);
        x.sleeps(0, LinkNames.NONE);
        x.claims(1, 1, 0, 9, 60);
        x.ticks(3);
        x.wakes(0);
        due("host 0 has to probe", x.record(0, 0, 4), 0);
        x.sleeps(1, LinkNames.NONE);
        x.ticks(3);
        due("host 0 owns it again", x.record(0, 0, 4), 3);
        x.sleeps(0, 2);
        x.sleeps(2, LinkNames.NONE);
        x.wakes(1);
        due("host 1 owns it too", x.record(1, 0, 4), 3);
        x.sleeps(1, LinkNames.NONE);
        x.claims(2, 5, 0, 5, 60);
        due("host 2 wakes", x.wakes(2), 0);
        due("host 0 is defended again", x.record(0, 0, 7), 1);
        due("host 1 wakes to a rival", x.wakes(1), 0);
    }
}

/** The edges under "A TICK" in the description: a method for each sentence. */
public final class TickEdgesTest extends Edges {
    public static void main(String[] args) {
        timeIncreases();
        entriesEnd();
        order();
        waits();
        firstThatApplies();
        loses();
        yields();
        ownsAtThree();
        rate();
        end("TickEdgesTest");
    }

    private static void timeIncreases() {
        sentence("The time increases by 1.");
        LinkNames x = new LinkNames();
        x.ticks(1);
        due("one tick, without a host", x.told(5), 1);
        x.ticks(60);
        due("sixty", x.told(5), 61);
    }

    private static void entriesEnd() {
        sentence("In all caches (also of sleeping hosts) the entries whose end is at most the time are removed.");
        LinkNames x = after(3, "s0 1 0 5 2;s0 2 0 5 60;z2;t1;");
        due("an end that is the time plus 1", x.of(1, 3), 2);
        due("of a sleeper", x.of(2, 3), 2);
        x.ticks(1);
        due("an end that is the time", x.of(1, 3), 1);
        due("of a sleeper", x.of(2, 3), 1);
        entry("the other one stays", x, 1, 0, 2, 0, 5, 60, 58);
        x.ticks(57);
        due("the last tick of the greatest life", x.entry(1, 0, 4), 1);
        due("of a sleeper", x.entry(2, 0, 4), 1);
        x.ticks(1);
        due("then it is removed", x.of(1, 3), 0);
        due("of a sleeper", x.of(2, 3), 0);
        LinkNames y = after(3, "s0 1 0 5 3;s0 2 0 5 3;s0 3 0 5 60;s0 4 0 5 3;t3;");
        due("several at once", y.of(1, 3), 1);
        entry("what stays", y, 1, 0, 3, 0, 5, 60, 57);
        // Six entries, of which the newest ends in the tick in which a seventh is heard: the oldest need not go.
        LinkNames z = after(4, "c1 9 0 5 60;s0 1 0 5 60;s0 2 0 5 60;s0 3 0 5 60;s0 4 0 5 60;s0 5 0 5 60;s2 6 0 5 3;");
        due("six", z.of(3, 3), 6);
        z.ticks(3);
        due("removed before another is heard", z.entry(3, 0, 0), 1);
        due("six again", z.entry(3, 5, 0), 9);
        LinkNames w = after(4, "c1 9 0 5 60;s0 1 0 5 60;s0 2 0 5 60;s0 3 0 5 60;s0 4 0 5 60;s0 5 0 5 60;s2 6 0 5 2;");
        w.ticks(30);
        due("removed in its own tick, though other ticks follow in the call", w.entry(3, 0, 0), 1);
    }

    private static void order() {
        sentence("For each host that is awake, in ascending order, for each of its records that is not owned, in"
                + " ascending order:");
        LinkNames x = after(2, "c0 3 0 9 60;t2;c1 3 0 5 60;t1;");
        due("host 0 owns it first, so host 1 loses", x.record(1, 0, 0), 4);
        LinkNames y = after(2, "c1 3 0 9 60;t2;c0 3 0 5 60;t1;");
        due("host 0 comes first, so it yields", y.record(0, 0, 5), 1);
        due("and keeps the name", y.record(0, 0, 0), 3);
        LinkNames z = after(2, "c0 3 0 9 60;c0 4 0 8 60;t3;");
        due("record 0 first", z.entry(1, 0, 0), 3);
        due("then record 1", z.entry(1, 1, 0), 4);
        LinkNames w = after(2, "c0 3 0 9 60;z0;t3;");
        due("a sleeper does not probe", w.record(0, 0, 4), 0);
        due("no probes", w.told(7), 0);
        LinkNames v = after(2, "c0 3 0 9 60;z0 1;t3;");
        due("nor one with a proxy", v.record(0, 0, 4), 0);
        LinkNames u = after(2, "s0 3 0 9 60;c0 4 0 9 60;t9;");
        due("an owned one probes no more", u.told(7), 3);
    }

    private static void waits() {
        sentence("if its wait is above 0, the wait decreases by 1, and nothing else happens.");
        LinkNames x = after(2, "c0 3 0 5 60;c1 3 0 9 60;t1;");
        due("it waits", x.record(0, 0, 5), 1);
        due("probes", x.told(7), 2);
        x.ticks(1);
        record("neither stage nor name changes", x, 0, 0, 3, 0, 5, 60, 0, 0, 1, 0);
        due("only host 1 has probed", x.told(7), 3);
        x.ticks(1);
        due("a wait of 0: it probes and yields again", x.record(0, 0, 5), 1);
        due("both have probed", x.told(7), 5);
        x.ticks(1);
        due("waits, though the name is owned by then", x.record(0, 0, 0), 3);
        due("no move", x.told(8), 0);
        due("waited", x.record(0, 0, 5), 0);
        x.ticks(1);
        due("now it loses", x.record(0, 0, 0), 4);
    }

    private static void firstThatApplies() {
        sentence("Otherwise it probes: the number of probes increases by 1, and the first of the following that"
                + " applies happens.");
        LinkNames x = after(3, "c0 3 0 5 60;t3;c1 3 0 7 60;c2 3 0 9 60;");
        due("probes", x.told(7), 3);
        x.ticks(1);
        due("two more", x.told(7), 5);
        record("it could lose and yield: it loses", x, 1, 0, 4, 0, 7, 60, 0, 0, 1, 0);
        due("moves", x.told(8), 2);
        x.ticks(1);
        due("it can only yield", x.record(1, 0, 5), 1);
        due("yielding is a probe", x.told(7), 7);
        due("but no move", x.told(8), 2);
    }

    private static void loses() {
        sentence("It loses, if another host has a defended record of one name with it, with other data: its name"
                + " becomes the next one (0 after 15), its stage and wait 0, and the number of moves increases by 1.");
        LinkNames x = after(3, "c0 14 2 5 60;c0 15 2 5 60;t3;c1 14 2 4 60;t1;");
        record("the next one", x, 1, 0, 15, 2, 4, 60, 0, 0, 1, 0);
        due("moves", x.told(8), 1);
        x.ticks(1);
        record("0 after 15", x, 1, 0, 0, 2, 4, 60, 0, 0, 1, 0);
        due("moves", x.told(8), 2);
        due("a free name", x.ticks(3), 1);
        record("it is owned", x, 1, 0, 0, 2, 4, 60, 3, 0, 1, 1);
        x.claims(2, 14, 2, 6, 60);
        x.ticks(1);
        due("greater data lose as well", x.record(2, 0, 0), 15);
        LinkNames y = after(2, "c0 3 0 5 60;t3;c1 3 0 5 60;t3;");
        due("the same data do not lose", y.record(1, 0, 4), 3);
        due("name", y.record(1, 0, 0), 3);
        LinkNames z = after(2, "c0 3 0 5 60;t3;z0;c1 3 0 9 60;t2;w0;");
        due("stage 2", z.record(1, 0, 4), 2);
        z.ticks(1);
        record("the stage becomes 0", z, 1, 0, 4, 0, 9, 60, 0, 0, 1, 0);
        LinkNames w = after(3, "c0 3 0 5 60;t3;z0;c1 3 0 9 60;t3;");
        due("not defended: no proxy", w.record(1, 0, 4), 3);
        LinkNames v = after(3, "c0 3 0 5 60;t3;z0 2;z2;c1 3 0 9 60;t3;");
        due("not defended: the proxy sleeps", v.record(1, 0, 4), 3);
        LinkNames u = after(3, "c0 3 0 5 60;t3;z0 2;c1 3 0 9 60;t1;");
        due("defended by a proxy", u.record(1, 0, 0), 4);
        LinkNames t = after(2, "c0 3 0 5 60;t3;z0 1;c1 3 0 9 60;t1;");
        due("also against the proxy's own", t.record(1, 0, 0), 4);
        LinkNames s = after(2, "s0 3 0 5 60;c1 3 0 9 60;t3;");
        due("not defended: shared", s.record(1, 0, 4), 3);
        losesToNoneOfItsOwnHost();
    }

    /** Host 1 comes to have two records of one name; they do not disturb one another. */
    private static void losesToNoneOfItsOwnHost() {
        LinkNames x = after(2, "c0 3 0 5 60;c1 4 0 7 60;t3;c1 3 0 6 60;t1;");
        due("moved to its own host's name", x.record(1, 1, 0), 4);
        x.ticks(3);
        due("owned beside the other", x.record(1, 1, 4), 3);
        due("moves", x.told(8), 1);
    }

    private static void yields() {
        sentence("It yields, if another host that is awake has a record of one name with it that is not owned, with"
                + " greater data: its stage becomes 0 and its wait 1.");
        LinkNames x = after(2, "c0 3 0 254 60;c1 3 0 255 60;t1;");
        record("greater by 1: it yields", x, 0, 0, 3, 0, 254, 60, 0, 1, 1, 0);
        due("less by 1: it does not", x.record(1, 0, 4), 1);
        LinkNames t = after(2, "c0 3 0 255 60;c1 3 0 254 60;t1;");
        due("less by 1: it does not", t.record(0, 0, 4), 1);
        record("greater by 1: it yields to host 0", t, 1, 0, 3, 0, 254, 60, 0, 1, 1, 0);
        LinkNames y = after(2, "c0 3 0 0 60;c1 3 0 0 60;t1;");
        due("equal data", y.record(0, 0, 4), 1);
        due("equal data", y.record(1, 0, 4), 1);
        LinkNames z = after(2, "c0 3 0 0 60;t2;c1 3 0 255 60;t1;");
        record("the stage becomes 0", z, 0, 0, 3, 0, 0, 60, 0, 1, 1, 0);
        LinkNames w = after(2, "c0 3 0 5 60;c1 3 0 9 60;z1 0;t1;");
        due("to a sleeper none yields, though it has a proxy", w.record(0, 0, 4), 1);
        LinkNames v = after(2, "c0 3 0 5 60;s1 3 0 9 60;t1;");
        due("to an owned one none yields", v.record(0, 0, 4), 1);
        LinkNames u = after(3, "c0 3 0 5 60;c1 4 0 7 60;c2 3 0 9 60;t3;");
        due("host 0 has yielded twice", u.record(0, 0, 5), 1);
        LinkNames s = after(2, "c0 3 0 9 60;t3;c1 4 0 7 60;c1 3 0 6 60;t1;");
        due("stage", s.record(1, 0, 4), 1);
        due("moved to the name of another of its host's", s.record(1, 1, 0), 4);
        s.ticks(1);
        due("to its own host none yields", s.record(1, 1, 4), 1);
        due("nor waits", s.record(1, 1, 5), 0);
    }

    private static void ownsAtThree() {
        sentence("Otherwise its stage increases by 1; if it is 3 then (the record is owned), its host announces it.");
        LinkNames x = after(2, "c0 3 0 5 60;");
        due("stage 1: no message", x.ticks(1), 0);
        due("stage 2: no message", x.ticks(1), 0);
        due("nobody has heard of it", x.of(1, 3), 0);
        due("stage 3: a message", x.ticks(1), 1);
        due("stage", x.record(0, 0, 4), 3);
        entry("heard", x, 1, 0, 3, 0, 5, 60, 60);
        due("and no other message", x.ticks(60), 0);
    }

    private static void rate() {
        sentence("The rate, a float (0 at first), becomes rate * 0.75 + g * 0.25, where g is the number of messages"
                + " since the end of the last tick (or since the beginning), as a float; both products and the sum"
                + " are computed in float.");
        LinkNames x = Checks.withHosts(2);
        due("0 at first", x.rate(), 0);
        x.ticks(1);
        due("0 without messages", x.rate(), 0);
        LinkNames y = after(2, "s0 1 0 5 60;s0 2 0 5 60;s0 3 0 5 60;");
        due("not before a tick ends", y.rate(), 0);
        y.ticks(1);
        due("since the beginning", y.rate(), Float.floatToIntBits(0.75f));
        y.ticks(1);
        due("since the end of the last tick", y.rate(), Float.floatToIntBits(0.5625f));
        y.leaves(0, 0);
        y.back();
        y.ticks(1);
        due("a message that was taken back", y.rate(), Float.floatToIntBits(0.421875f));
        LinkNames z = after(2, "c0 1 0 5 60;t3;");
        due("a message of the tick itself", z.rate(), Float.floatToIntBits(0.25f));
        computedInFloat();
    }

    /** A message before every second tick: in the 45th, a sum in double would be rounded to another float. */
    private static void computedInFloat() {
        LinkNames x = Checks.withHosts(1);
        float rate = 0;
        boolean wouldDiffer = false;
        for (int i = 0; i < 60; i++) {
            float g = i % 2 == 0 ? 1 : 0;
            if (i % 4 == 0) {
                x.shares(0, 1, 0, 5, 60);
            } else if (i % 4 == 2) {
                x.leaves(0, 0);
            }
            x.ticks(1);
            wouldDiffer |= (float) (rate * 0.75 + g * 0.25) != rate * 0.75f + g * 0.25f;
            rate = rate * 0.75f + g * 0.25f;
            due("after " + (i + 1) + " ticks", x.rate(), Float.floatToIntBits(rate));
        }
        holds("the float's rounding is seen in this run", wouldDiffer);
    }
}

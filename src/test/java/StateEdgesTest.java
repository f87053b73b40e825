import java.util.function.IntSupplier;

/** The edges under "STATES AND ERRORS" in the description: a method for each sentence. */
public final class StateEdgesTest extends Edges {
    public static void main(String[] args) {
        stepsSave();
        stepsSaveThoughNothingChanges();
        othersSaveNothing();
        refusedStepsSaveNothing();
        whatIsNotSaved();
        whatIsSaved();
        latestFive();
        bad();
        noneIsNoError();
        firstErrorInOrder();
        noneOnlyWithoutAnError();
        errorsChangeNothing();
        errorsLeaveSavedStatesAlone();
        errorsAreCounted();
        end("StateEdgesTest");
    }

    private static final int STEPS = 9;

    private static final String BUSY =
            "h;h;h;h;s0 1 0 1 9;c1 2 0 3 60;s2 4 1 6 7;z3 0;t4;c2 2 0 2 20;c0 9 1 9 20;c2 9 1 1 20;t1;";

    /** A link on which much is under way, with one saved state. Each of its steps changes something. */
    private static LinkNames busyLink() {
        LinkNames x = new LinkNames();
        holds("the busy link comes to be", Checks.reads(x, BUSY) > 0);
        x.clear();
        Checks.write(x, "h;t3;z0 1;g1 0;");
        return x;
    }

    private static int step(LinkNames x, int which) {
        switch (which) {
            case 0: return x.host();
            case 1: return x.claims(0, 5, 0, 9, 20);
            case 2: return x.shares(1, 6, 1, 8, 20);
            case 3: return x.leaves(0, 0);
            case 4: return x.ticks(60);
            case 5: return x.asks(0, 4, 1);
            case 6: return x.sleeps(1, 2);
            case 7: return x.wakes(3);
            default: return x.reads();
        }
    }

    private static void stepsSave() {
        sentence("A method that is marked with \"step\" saves the state of the link (everything but the text, the"
                + " counts of errors, and what why() returns) before it changes anything, if it returns no error,"
                + " also if nothing changes.");
        for (int which = 0; which < STEPS; which++) {
            LinkNames x = busyLink();
            long before = x.digest();
            due("saved", x.told(10), 1);
            holds("step " + which + " returns no error", step(x, which) >= 0);
            due("step " + which + " saves one", x.told(10), 2);
            holds("step " + which + " changes more than that", x.digest() != digestWithOneMore(x, before, 10));
            due("back()", x.back(), 1);
            due("step " + which + ": the state before it changed anything", x.digest(), before);
            LinkNames y = busyLink();
            x.ticks(1);
            y.ticks(1);
            due("step " + which + ": also the messages since the last tick", x.digest(), y.digest());
        }
    }

    private static void stepsSaveThoughNothingChanges() {
        sentence("if it returns no error, also if nothing changes.");
        LinkNames x = Checks.withHosts(1);
        due("a question without an answer", x.asks(0, 0, 0), 0);
        due("saved", x.told(10), 2);
        x.type('a');
        Checks.reads(x, "a0 0 0;");
        due("a text of such a question", x.told(10), 3);
        due("asked again", x.asks(0, 0, 0), 0);
        due("saved", x.told(10), 4);
        due("back()", x.back(), 3);
        due("back()", x.back(), 2);
        due("back()", x.back(), 1);
        due("the host is still there", x.told(4), 1);
        due("back()", x.back(), 0);
        due("only now it is not", x.told(4), 0);
    }

    private static void othersSaveNothing() {
        sentence("A method that is marked with \"step\" saves");
        LinkNames x = busyLink();
        IntSupplier[] calls = {() -> x.record(0, 0, 0), () -> x.of(0, 0), x::rate, () -> x.entry(0, 0, 0),
            () -> x.finds(0, 1, 0, 0), () -> x.owner(1, 0, 0), () -> x.all(0), () -> x.why(0), () -> x.told(0),
            () -> (int) x.digest(), () -> x.type(32), x::clear};
        for (int i = 0; i < calls.length; i++) {
            calls[i].getAsInt();
            due("call " + i + " is no step", x.told(10), 1);
        }
    }

    private static void refusedStepsSaveNothing() {
        sentence("if it returns no error,");
        LinkNames x = Checks.withHosts(6);
        due("five are kept", x.back(), 4);
        x.host();
        x.back();
        x.host();
        x.back();
        due("four", x.told(10), 4);
        IntSupplier[] calls = {() -> x.claims(0, 16, 0, 0, 2), () -> x.shares(0, 16, 0, 0, 2), () -> x.leaves(0, 0),
            () -> x.ticks(0), () -> x.asks(0, 16, 0), () -> x.sleeps(0, 0), () -> x.wakes(0), x::reads,
            () -> Checks.reads(x, "t1;t61;")};
        for (int i = 0; i < calls.length; i++) {
            holds("call " + i + " is refused", calls[i].getAsInt() < 0);
            due("call " + i + " saves nothing", x.told(10), 4);
        }
    }

    private static void whatIsNotSaved() {
        sentence("(everything but the text, the counts of errors, and what why() returns)");
        LinkNames x = Checks.withHosts(5);
        x.host();
        x.ticks(0);
        x.ticks(61);
        x.wakes(0);
        x.host();
        Checks.reads(x, "t1;h;");
        due("why(0)", x.why(0), FULL);
        x.back();
        due("hosts", x.told(4), 5);
        due("BAD", x.told(0), 2);
        due("NO", x.told(1), 1);
        due("FULL", x.told(2), 1);
        due("the length of the text", x.told(3), 5);
        due("why(0)", x.why(0), FULL);
        due("why(1)", x.why(1), 1);
        due("the text itself", x.reads(), 2);
        x.clear();
        x.back();
        due("a text that was emptied stays so", x.told(3), 0);
    }

    private static void whatIsSaved() {
        sentence("saves the state of the link");
        // Moves, suppressed answers and the rate change within these ticks and this question.
        LinkNames x = after(3, "c0 1 0 5 60;t3;c1 1 0 9 60;");
        int[] before = {3, 3, 1, 3, 0, 0};
        for (int what = 4; what <= 9; what++) {
            due("told(" + what + ")", x.told(what), before[what - 4]);
        }
        int rate = x.rate();
        due("a text", Checks.reads(x, "h;t1;a2 1 0;s2 7 0 7 7;"), 4);
        int[] then = {4, 4, 2, 4, 1, 1};
        for (int what = 4; what <= 9; what++) {
            due("told(" + what + ")", x.told(what), then[what - 4]);
        }
        x.back();
        for (int what = 4; what <= 9; what++) {
            due("back: told(" + what + ")", x.told(what), before[what - 4]);
        }
        due("back: rate()", x.rate(), rate);
        record("back: the record that lost its name", x, 1, 0, 1, 0, 9, 60, 0, 0, 1, 0);
    }

    private static void latestFive() {
        sentence("The latest five of these states are kept; back() returns to them.");
        for (int steps = 0; steps <= 13; steps++) {
            LinkNames x = new LinkNames();
            for (int i = 0; i < steps; i++) {
                x.ticks(1);
                due("saved", x.told(10), Math.min(i + 1, 5));
            }
            int kept = Math.min(steps, 5);
            for (int left = kept - 1; left >= 0; left--) {
                due("back() after " + steps + " steps", x.back(), left);
                due("time", x.told(5), steps - kept + left);
                due("saved", x.told(10), left);
            }
            refused("none is left", x, NO, x::back);
            due("time", x.told(5), steps - kept);
        }
    }

    private static void bad() {
        sentence("BAD (-2): an argument is out of range or names something that does not exist.");
        due("BAD", BAD, -2);
        LinkNames x = after(1, "c0 1 0 5 60;");
        due("out of range", x.ticks(61), -2);
        due("a host that does not exist", x.of(1, 0), -2);
        due("a record that does not exist", x.record(0, 1, 0), -2);
        due("NO", NO, -3);
        due("FULL", FULL, -4);
    }

    private static void noneIsNoError() {
        sentence("NONE (-1) is not an error: there is no such thing.");
        LinkNames x = Checks.withHosts(1);
        changesNothing("no proxy", x, -1, () -> x.of(0, 2));
        changesNothing("no entry", x, -1, () -> x.entry(0, 0, 0));
        changesNothing("no entry with the name, for its data", x, -1, () -> x.finds(0, 0, 0, 0));
        changesNothing("no entry with the name, for its end", x, -1, () -> x.finds(0, 0, 0, 2));
        changesNothing("no owner", x, -1, () -> x.owner(0, 0, 0));
        changesNothing("no owner's data", x, -1, () -> x.owner(0, 0, 1));
        changesNothing("no order", x, -1, () -> x.why(1));
        due("a proxy may be NONE", x.sleeps(0, NONE), 0);
    }

    private static void firstErrorInOrder() {
        sentence("Each method names its errors in the order in which they are checked; the first that applies is"
                + " returned,");
        LinkNames x = after(2, "c0 1 0 5 60;c0 2 0 5 60;c0 3 0 5 60;c0 4 0 5 60;c0 5 0 5 60;");
        refused("claims: FULL alone", x, FULL, () -> x.claims(0, 9, 0, 5, 60));
        refused("shares: FULL alone", x, FULL, () -> x.shares(0, 9, 0, 5, 60));
        refused("claims: one name before FULL", x, NO, () -> x.claims(0, 5, 0, 5, 60));
        refused("shares: one name before FULL", x, NO, () -> x.shares(0, 5, 0, 5, 60));
        refused("claims: BAD before FULL", x, BAD, () -> x.claims(0, 9, 0, 5, 61));
        refused("shares: BAD before FULL", x, BAD, () -> x.shares(0, 9, 0, 256, 60));
        refused("claims: BAD before NO", x, BAD, () -> x.claims(0, 5, 0, 5, 1));
        refused("shares: BAD before NO", x, BAD, () -> x.shares(0, 5, 0, -1, 60));
        x.sleeps(0, NONE);
        refused("claims: asleep before FULL", x, NO, () -> x.claims(0, 9, 0, 5, 60));
        refused("shares: asleep before FULL", x, NO, () -> x.shares(0, 9, 0, 5, 60));
        refused("claims: BAD before asleep", x, BAD, () -> x.claims(0, 16, 0, 5, 60));
        refused("shares: BAD before asleep", x, BAD, () -> x.shares(0, 9, 4, 5, 60));
        LinkNames y = after(3, "c0 1 0 5 60;z0;");
        refused("leaves: NO alone", y, NO, () -> y.leaves(0, 0));
        refused("leaves: BAD before NO", y, BAD, () -> y.leaves(0, 1));
        refused("asks: NO alone", y, NO, () -> y.asks(0, 1, 0));
        refused("asks: BAD before NO", y, BAD, () -> y.asks(0, 1, 4));
        refused("sleeps: NO alone", y, NO, () -> y.sleeps(0, 1));
        refused("sleeps: a bad proxy before a sleeping host", y, BAD, () -> y.sleeps(0, 3));
        refused("sleeps: itself before a sleeping host", y, BAD, () -> y.sleeps(0, 0));
        refused("sleeps: a bad host before a sleeping proxy", y, BAD, () -> y.sleeps(3, 0));
        LinkNames z = new LinkNames();
        Checks.write(z, " ".repeat(120));
        refused("type: FULL alone", z, FULL, () -> z.type(32));
        refused("type: BAD before FULL", z, BAD, () -> z.type(128));
        refused("type: BAD before FULL", z, BAD, () -> z.type(-1));
    }

    private static void noneOnlyWithoutAnError() {
        sentence("and NONE only if none of them applies.");
        LinkNames x = Checks.withHosts(1);
        refused("entry: what", x, BAD, () -> x.entry(0, 0, 5));
        refused("entry: what", x, BAD, () -> x.entry(0, 0, -1));
        refused("entry: the host", x, BAD, () -> x.entry(1, 0, 0));
        refused("finds: what", x, BAD, () -> x.finds(0, 0, 0, 3));
        refused("finds: what", x, BAD, () -> x.finds(0, 0, 0, -1));
        refused("finds: the host", x, BAD, () -> x.finds(1, 0, 0, 0));
        refused("finds: the name", x, BAD, () -> x.finds(0, 16, 0, 0));
        refused("owner: what", x, BAD, () -> x.owner(0, 0, 3));
        refused("owner: what", x, BAD, () -> x.owner(0, 0, -1));
        refused("owner: the kind", x, BAD, () -> x.owner(0, 4, 0));
    }

    private static void errorsChangeNothing() {
        sentence("A call that returns an error changes nothing, except that the errors BAD, NO and FULL are counted"
                + " (see told()).");
        LinkNames x = busyLink();
        refused("claims", x, BAD, () -> x.claims(1, 5, 0, 256, 20));
        refused("claims", x, NO, () -> x.claims(3, 5, 0, 1, 20));
        refused("shares", x, BAD, () -> x.shares(1, 5, 0, 1, 61));
        refused("shares", x, NO, () -> x.shares(0, 9, 1, 1, 20));
        refused("leaves", x, BAD, () -> x.leaves(1, 5));
        refused("leaves", x, BAD, () -> x.leaves(3, 0));
        refused("record", x, BAD, () -> x.record(0, 0, 8));
        refused("of", x, BAD, () -> x.of(4, 0));
        refused("ticks", x, BAD, () -> x.ticks(0));
        refused("asks", x, BAD, () -> x.asks(0, 16, 0));
        refused("asks", x, NO, () -> x.asks(3, 4, 1));
        refused("sleeps", x, BAD, () -> x.sleeps(0, 4));
        refused("sleeps", x, NO, () -> x.sleeps(0, 3));
        refused("wakes", x, BAD, () -> x.wakes(4));
        refused("wakes", x, NO, () -> x.wakes(0));
        LinkNames y = busyLink();
        refused("entry", y, BAD, () -> y.entry(0, -1, 0));
        refused("finds", y, BAD, () -> y.finds(0, 4, 1, 3));
        refused("owner", y, BAD, () -> y.owner(16, 0, 0));
        refused("all", y, BAD, () -> y.all(4));
        refused("type", y, BAD, () -> y.type(128));
        refused("told", y, BAD, () -> y.told(11));
        refusedWith(-10, "why", y, BAD, () -> y.why(2));
        due("the text is as it was", y.reads(), 4);
        y.back();
        y.host();
        y.host();
        refused("host", y, FULL, y::host);
        y.claims(0, 11, 0, 0, 2);
        y.claims(0, 12, 0, 0, 2);
        y.claims(0, 13, 0, 0, 2);
        refused("claims", y, FULL, () -> y.claims(0, 14, 0, 0, 2));
        refused("shares", y, FULL, () -> y.shares(0, 14, 0, 0, 2));
        while (y.told(3) < 120) {
            y.type(32);
        }
        refused("type", y, FULL, () -> y.type(32));
        due("the text is as it was", y.reads(), -1000);
        LinkNames z = new LinkNames();
        refused("back", z, NO, z::back);
    }

    private static void errorsLeaveSavedStatesAlone() {
        sentence("A call that returns an error changes nothing,");
        LinkNames x = Checks.withHosts(2);
        for (int i = 0; i < 7; i++) {
            x.ticks(1);
        }
        x.claims(1, 0, 0, 1, 9);
        x.shares(1, 1, 0, 1, 9);
        due("a refused step", x.ticks(61), BAD);
        due("a refused step", x.claims(0, 16, 0, 0, 2), BAD);
        due("a refused step", x.wakes(0), NO);
        due("a text that is refused after its first order", Checks.reads(x, "t9;w1;"), -1001);
        due("the message before is still new", x.ticks(1), 0);
        due("rate", x.rate(), Float.floatToIntBits(0.25f));
        due("another refused step", x.wakes(1), NO);
        due("back()", x.back(), 4);
        due("records", x.of(1, 0), 2);
        due("back()", x.back(), 3);
        due("records", x.of(1, 0), 1);
        due("a refused step", x.ticks(61), BAD);
        due("back()", x.back(), 2);
        due("records", x.of(1, 0), 0);
        due("back()", x.back(), 1);
        due("time", x.told(5), 6);
        due("back()", x.back(), 0);
        due("time", x.told(5), 5);
    }

    private static void errorsAreCounted() {
        sentence("the errors BAD, NO and FULL are counted (see told()).");
        LinkNames x = Checks.withHosts(6);
        for (int i = 1; i <= 3; i++) {
            x.ticks(61);
            due("BAD", x.told(0), i);
            x.wakes(0);
            due("NO", x.told(1), i);
            x.host();
            due("FULL", x.told(2), i);
        }
        x.entry(0, 0, 0);
        Checks.reads(x, "x");
        Checks.reads(x, "h;");
        x.why(0);
        due("BAD", x.told(0), 3);
        due("NO", x.told(1), 3);
        due("FULL, though an order returned it, and why(0)", x.told(2), 3);
    }
}

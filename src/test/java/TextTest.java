/** Promises 17 to 20: type, clear, reads, why. */
public final class TextTest {
    private static final Checks CHECKS = new Checks();

    private static void due(String call, long got, long want) {
        CHECKS.due(call, got, want);
    }

    private static void fault(String text, int want) {
        LinkNames x = Checks.withHosts(2);
        due("reads of \"" + text + "\"", Checks.reads(x, text), -10 - want);
        due("a fault is no error", x.told(0) + x.told(1) + x.told(2), 0);
        due("a fault saves nothing", x.told(10), 2);
        due("a fault does nothing", x.told(4), 2);
        due("a fault is not told by why", x.why(1), LinkNames.NONE);
        due("the text stays", x.told(3), text.length());
    }

    private static void orders(String text, int want) {
        LinkNames x = Checks.withHosts(2);
        x.claims(0, 0, 0, 0, 2);
        x.claims(1, 0, 0, 0, 2);
        due("reads of \"" + text + "\"", Checks.reads(x, text), want);
        due("one step for all", x.told(10), 5);
        due("the text stays", x.told(3), text.length());
    }

    public static void main(String[] args) {
        typing();
        faults();
        goodTexts();
        everyOrder();
        failures();
        longest();
        CHECKS.end("TextTest");
    }

    private static void typing() {
        LinkNames x = new LinkNames();
        for (int c : Checks.outside(0, 127)) {
            due("type(" + c + ")", x.type(c), LinkNames.BAD);
        }
        due("type(0)", x.type(0), 1);
        due("type(127)", x.type(127), 2);
        due("told(3)", x.told(3), 2);
        for (int length = 3; length <= 120; length++) {
            due("type(59)", x.type(59), length);
        }
        due("type in a full text", x.type(59), LinkNames.FULL);
        due("BAD before FULL", x.type(128), LinkNames.BAD);
        due("FULL counted", x.told(2), 1);
        due("BAD counted", x.told(0), 7);
        due("typing is no step", x.told(10), 0);
        due("clear()", x.clear(), 120);
        due("clear()", x.clear(), 0);
        due("told(3)", x.told(3), 0);
        due("clearing is no step", x.told(10), 0);
        due("type again", x.type(104), 1);
    }

    private static void faults() {
        fault("", 0);
        fault("   ", 3);
        fault("h", 1);
        fault("h  ", 3);
        fault("h;h", 3);
        fault("h; c", 4);
        fault(";", 0);
        fault("h;;", 2);
        fault("q;", 0);
        fault("H;", 0);
        fault("1;", 0);
        fault(" x", 1);
        fault("h\t;", 1);
        fault("hh;", 1);
        fault("h1;", 1);
        fault("h 1;", 2);
        fault("t;", 1);
        fault("t ;", 2);
        fault("t1", 2);
        fault("t1 ", 3);
        fault("t1x;", 2);
        fault("t-1;", 1);
        fault("t1 2;", 3);
        fault("t1 x;", 3);
        fault("t1234;", 4);
        fault("t0000;", 4);
        fault("w;", 1);
        fault("w1 1;", 3);
        fault("z;", 1);
        fault("z0 1 2;", 5);
        fault("z0 1 ", 5);
        fault("z0 1234;", 6);
        fault("g0;", 2);
        fault("g0 0 0;", 5);
        fault("a0 0;", 4);
        fault("a0 0 0 0;", 7);
        fault("c0 1 0 5;", 8);
        fault("c0 1 0 5 9 9;", 11);
        fault("s0 1 0 5;", 8);
        fault("s0 1 0 5 9 9;", 11);
        fault("s0 1 0 5 9", 10);
        fault("c0,1", 2);
        fault("t60;t1;t99999;", 11);
        fault("t0;q", 3);
        fault("h;" + (char) 0, 2);
        fault("h;" + (char) 127, 2);
    }

    private static void goodTexts() {
        orders("h;", 1);
        orders("h;h;", 2);
        orders("  h  ;  h  ;  ", 2);
        orders("t1;", 1);
        orders("t001;", 1);
        orders(" t  60 ; ", 1);
        orders("z0;w0;", 2);
        orders("z 0 1;w 0;", 2);
        orders("z0  001 ;w 000;", 2);
        orders("c0 9 3 255 60;s1 9 3 255 60;a1 9 3;g0 1;", 4);
    }

    private static void everyOrder() {
        LinkNames x = new LinkNames();
        due("reads", Checks.reads(x, "h;h;h;c0 1 2 30 40;s1 4 3 20 10;t3;"), 6);
        int[] claimed = {1, 2, 30, 40, 3, 0, 1, 1};
        int[] shared = {4, 3, 20, 10, 3, 0, 0, 0};
        for (int what = 0; what < 8; what++) {
            due("record(0, 0, " + what + ")", x.record(0, 0, what), claimed[what]);
            due("record(1, 0, " + what + ")", x.record(1, 0, what), shared[what]);
        }
        due("time", x.told(5), 3);
        due("saved", x.told(10), 1);
        due("reads", Checks.reads(x, "t3;a2 4 3;z0;z1 2;"), 4);
        due("asked", x.finds(2, 4, 3, 2), 10);
        due("asleep without a proxy", x.of(0, 2), LinkNames.NONE);
        due("asleep", x.of(0, 1), 0);
        due("asleep with a proxy", x.of(1, 2), 2);
        due("reads", Checks.reads(x, "w0;w1;g1 0;"), 3);
        due("awake", x.all(3), 3);
        due("left", x.of(1, 0), 0);
        due("saved", x.told(10), 3);
        due("read again", x.reads(), -1000);
        due("why", x.why(0), LinkNames.NO);
        due("back", x.back(), 2);
        due("all of the text is undone", x.all(3), 1);
        due("read again", x.reads(), 3);
    }

    private static void failures() {
        LinkNames x = Checks.withHosts(2);
        long before = x.digest();
        due("no step and no change", Checks.reads(x, "h;t5;t61;h;"), -1002);
        due("why(0)", x.why(0), LinkNames.BAD);
        due("why(1)", x.why(1), 2);
        due("hosts", x.told(4), 2);
        due("time", x.told(5), 0);
        due("not counted", x.told(0) + x.told(1) + x.told(2), 0);
        due("not saved", x.told(10), 2);
        due("reads", Checks.reads(x, "h;h;h;h;h;"), -1004);
        due("why(0)", x.why(0), LinkNames.FULL);
        due("why(1)", x.why(1), 4);
        due("reads", Checks.reads(x, "w0;"), -1000);
        due("why(0)", x.why(0), LinkNames.NO);
        due("why(1)", x.why(1), 0);
        due("a fault comes before an error", Checks.reads(x, "h;t61;x"), -16);
        due("and does not change why", x.why(0), LinkNames.NO);
        due("z 0 0 is BAD", Checks.reads(x, "t1;z0 0;"), -1001);
        due("why(0)", x.why(0), LinkNames.BAD);
        due("a good text", Checks.reads(x, "t1;"), 1);
        due("does not change why", x.why(1), 1);
        x.back();
        due("nor does back()", x.why(0), LinkNames.BAD);
        for (int what : Checks.outside(0, 1)) {
            due("why(" + what + ")", x.why(what), -10);
        }
        due("counted as BAD", x.told(0), 6);
        LinkNames y = Checks.withHosts(2);
        due("the digest before", y.digest(), before);
        Checks.reads(y, "c0 1 1 1 9;s1 2 2 2 9;t3;z1;q");
        y.clear();
        due("the digest after a fault", y.digest(), before);
        due("undone", Checks.reads(y, "c0 1 1 1 9;s1 2 2 2 9;t3;z1;w0;"), -1004);
        due("no records", y.of(0, 0) + y.of(1, 0), 0);
        due("no messages", y.told(6), 0);
        due("no probes", y.told(7), 0);
        due("no rate", y.rate(), 0);
    }

    private static void longest() {
        LinkNames x = new LinkNames();
        StringBuilder text = new StringBuilder("h;");
        for (int i = 1; i < 60; i++) {
            text.append("h;");
        }
        due("sixty orders", Checks.reads(x, text.toString()), -1006);
        due("why(1)", x.why(1), 6);
        text.setLength(0);
        for (int i = 0; i < 30; i++) {
            text.append("t60;");
        }
        due("thirty orders", Checks.reads(x, text.toString()), 30);
        due("time", x.told(5), 1800);
        x.clear();
        Checks.write(x, text.toString());
        due("a full text takes no more", x.type('h'), LinkNames.FULL);
        due("and can still be read", x.reads(), 30);
    }
}

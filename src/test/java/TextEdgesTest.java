/** The edges under "THE TEXT" in the description: a method for each sentence. */
public final class TextEdgesTest extends Edges {
    private static final String DIGITS = "0123456789";
    private static final String LETTERS = "htwzcsag";

    public static void main(String[] args) {
        buffer();
        oneOrMoreOrders();
        digits();
        spaces();
        shortOrders();
        longOrders();
        questionsAndGoodbyes();
        numbersOfEachOrder();
        everyByteAtEveryPlace();
        endsTooEarly();
        firstFault();
        end("TextEdgesTest");
    }

    private static void fault(String text, int index) {
        LinkNames x = Checks.withHosts(2);
        Checks.write(x, text);
        changesNothing("reads() of \"" + text + "\"", x, -10 - index, x::reads);
    }

    /** The orders are performed; two hosts are there, each with a record. */
    private static void performed(String text, int orders) {
        LinkNames x = after(2, "c0 0 0 0 60;c1 0 0 0 60;");
        Checks.write(x, text);
        due("reads() of \"" + text + "\"", x.reads(), orders);
        due("one step", x.told(10), 4);
    }

    /** The order is well-formed, but its call returns an error. */
    private static void erred(String text, int error) {
        LinkNames x = after(2, "c0 0 0 0 60;c1 0 0 0 60;z1;");
        Checks.write(x, text);
        due("reads() of \"" + text + "\"", x.reads(), -1000);
        due("the error of \"" + text + "\"", x.why(0), error);
    }

    private static void buffer() {
        sentence("The text is a buffer of at most 120 bytes.");
        LinkNames x = new LinkNames();
        for (int length = 1; length <= 119; length++) {
            due("type(32)", x.type(32), length);
        }
        due("the last byte that has room", x.type('h'), 120);
        refused("one more", x, FULL, () -> x.type(';'));
        due("it was not taken: the text ends too early", x.reads(), -130);
        x.clear();
        for (int length = 1; length <= 118; length++) {
            x.type(32);
        }
        x.type('h');
        due("all 120 bytes are read", x.type(';'), 120);
        due("reads()", x.reads(), 1);
    }

    private static void oneOrMoreOrders() {
        sentence("It contains one or more orders, each followed by ; (semicolon).");
        fault("", 0);
        performed("h;", 1);
        performed("h;h;", 2);
        fault(";", 0);
        fault("h", 1);
        fault("h;;", 2);
        fault("h;h", 3);
        fault("hh;", 1);
        fault("h:", 1);
        fault("t1t1;", 2);
        LinkNames x = new LinkNames();
        Checks.write(x, "t1;".repeat(40));
        due("forty orders", x.reads(), 40);
        LinkNames y = new LinkNames();
        Checks.write(y, "h;".repeat(60));
        due("sixty orders, of which the seventh is refused", y.reads(), -1006);
    }

    private static void digits() {
        sentence("Numbers have one to three digits.");
        performed("t1;", 1);
        performed("t01;", 1);
        performed("t001;", 1);
        fault("t0001;", 4);
        performed("t60;", 1);
        performed("t060;", 1);
        fault("t0060;", 4);
        erred("t000;", BAD);
        erred("t999;", BAD);
        fault("t1000;", 4);
        performed("c0 09 003 255 060;", 1);
        fault("c0000 9 3 255 60;", 4);
        fault("c0 0009 3 255 60;", 6);
        fault("c0 9 3 255 0060;", 14);
        fault("c0 9 3 255 06a;", 13);
        fault("t;", 1);
    }

    private static void spaces() {
        sentence("Spaces (32) may stand anywhere but within a number; they are needed only between two numbers.");
        performed("  h  ;  h  ;  ", 2);
        performed("   c   0   9   3   255   60   ;   ", 1);
        performed("c0 9 3 255 60;h;t1;z0 1;w0;", 5);
        performed(" h;", 1);
        performed("h ;", 1);
        performed("h; ", 1);
        performed("t 1;", 1);
        performed("t1 ;", 1);
        fault("t6 0;", 3);
        fault("a1 00;", 5);
        fault("a100;", 4);
        fault("c09325560;", 4);
        for (int other : new int[] {0, 9, 10, 13, 31, 33, 127}) {
            fault((char) other + "h;", 0);
            fault("h" + (char) other + ";", 1);
            fault("h;" + (char) other, 2);
            fault("t" + (char) other + "1;", 1);
            fault("z0" + (char) other + "1;", 2);
        }
    }

    private static void shortOrders() {
        sentence("- h: host(); t n: ticks(n); w h: wakes(h); z h: sleeps(h, NONE); z h p: sleeps(h, p);");
        LinkNames x = Checks.withHosts(2);
        due("h", Checks.reads(x, "h;"), 1);
        due("host()", x.told(4), 3);
        due("t 60", Checks.reads(x, "t60;"), 1);
        due("ticks(60)", x.told(5), 60);
        due("z 1", Checks.reads(x, "z1;"), 1);
        due("asleep", x.of(1, 1), 0);
        due("sleeps(1, NONE)", x.of(1, 2), NONE);
        due("z 0 2", Checks.reads(x, "z0 2;"), 1);
        due("sleeps(0, 2)", x.of(0, 2), 2);
        due("w 1", Checks.reads(x, "w1;"), 1);
        due("wakes(1)", x.of(1, 1), 1);
        due("host 0 still sleeps", x.of(0, 1), 0);
        due("h", Checks.reads(x, "h;h;h;"), 3);
        due("a seventh host", Checks.reads(x, "h;"), -1000);
        due("FULL", x.why(0), FULL);
        erred("t0;", BAD);
        erred("t61;", BAD);
        erred("w2;", BAD);
        erred("w999;", BAD);
        erred("w0;", NO);
        erred("z2;", BAD);
        erred("z1;", NO);
        erred("z0 0;", BAD);
        erred("z0 2;", BAD);
        erred("z0 1;", NO);
    }

    private static void longOrders() {
        sentence("- c h n k d l: claims(h, n, k, d, l); s h n k d l: shares(h, n, k, d, l);");
        LinkNames x = Checks.withHosts(2);
        due("c", Checks.reads(x, "c1 15 3 255 60;"), 1);
        record("claims(1, 15, 3, 255, 60)", x, 1, 0, 15, 3, 255, 60, 0, 0, 1, 0);
        due("s", Checks.reads(x, "s1 14 2 254 59;"), 1);
        record("shares(1, 14, 2, 254, 59)", x, 1, 1, 14, 2, 254, 59, 3, 0, 0, 0);
        for (String letter : new String[] {"c", "s"}) {
            performed(letter + "0 15 0 0 2;", 1);
            performed(letter + "0 1 3 255 60;", 1);
            erred(letter + "2 1 0 0 2;", BAD);
            erred(letter + "0 16 0 0 2;", BAD);
            erred(letter + "0 1 4 0 2;", BAD);
            erred(letter + "0 1 0 256 2;", BAD);
            erred(letter + "0 1 0 0 1;", BAD);
            erred(letter + "0 1 0 0 61;", BAD);
            erred(letter + "0 0 0 1 2;", NO);
            erred(letter + "1 1 0 1 2;", NO);
            LinkNames y = after(1, "c0 1 0 5 60;c0 2 0 5 60;c0 3 0 5 60;c0 4 0 5 60;c0 5 0 5 60;");
            due("a sixth record", Checks.reads(y, letter + "0 6 0 5 60;"), -1000);
            due("FULL", y.why(0), FULL);
        }
    }

    private static void questionsAndGoodbyes() {
        sentence("- a h n k: asks(h, n, k); g h r: leaves(h, r).");
        LinkNames x = after(2, "z1;s0 15 3 255 60;s0 1 0 5 60;w1;");
        due("a", Checks.reads(x, "a1 15 3;"), 1);
        due("asks(1, 15, 3)", x.finds(1, 15, 3, 0), 255);
        due("and nothing else", x.of(1, 3), 1);
        due("g", Checks.reads(x, "g0 1;"), 1);
        due("leaves(0, 1)", x.of(0, 0), 1);
        due("record 0 stays", x.record(0, 0, 0), 15);
        erred("a2 0 0;", BAD);
        erred("a0 16 0;", BAD);
        erred("a0 0 4;", BAD);
        erred("a1 0 0;", NO);
        erred("g2 0;", BAD);
        erred("g0 1;", BAD);
        erred("g0 999;", BAD);
        erred("g1 0;", NO);
    }

    private static void numbersOfEachOrder() {
        sentence("(also a fourth digit of a number, and the first byte of a number too many)");
        int[] least = {0, 1, 1, 1, 5, 5, 3, 2};
        int[] most = {0, 1, 1, 2, 5, 5, 3, 2};
        for (int order = 0; order < LETTERS.length(); order++) {
            String text = "" + LETTERS.charAt(order);
            for (int numbers = 0; numbers <= most[order] + 1; numbers++) {
                text += numbers == 0 ? "" : numbers == 1 ? "12" : " 12";
                if (numbers < least[order]) {
                    fault(text + ";", text.length());
                } else if (numbers > most[order]) {
                    fault(text + ";", text.length() - 2);
                } else {
                    LinkNames x = new LinkNames();
                    int answer = Checks.reads(x, text + ";");
                    due("\"" + text + ";\" has no fault", answer == 1 || answer == -1000 ? 1 : 0, 1);
                }
            }
        }
        fault("t1234;", 4);
        fault("z0 1234;", 6);
        fault("z0 1 2;", 5);
        fault("z0 1 234;", 5);
        fault("c0 9 3 255 60 1;", 14);
    }

    /** What can stand behind the beginnings of a text; every other byte from 0 to 127 cannot. */
    private static void everyByteAtEveryPlace() {
        sentence("The fault of a text is the index (from 0) of the first byte that cannot stand at its place");
        place("", " " + LETTERS);
        place("  ", " " + LETTERS);
        place("h", " ;");
        place("h ", " ;");
        place("h;", " " + LETTERS);
        place("h; ", " " + LETTERS);
        for (String letter : new String[] {"t", "w", "z", "c", "s", "a", "g"}) {
            place(letter, " " + DIGITS);
            place(letter + " ", " " + DIGITS);
        }
        for (String one : new String[] {"t", "w"}) {
            place(one + "1", " ;" + DIGITS);
            place(one + "12", " ;" + DIGITS);
            place(one + "123", " ;");
            place(one + "1 ", " ;");
        }
        place("z1", " ;" + DIGITS);
        place("z123", " ;");
        place("z1 ", " ;" + DIGITS);
        place("z1 1", " ;" + DIGITS);
        place("z1 123", " ;");
        place("z1 1 ", " ;");
        for (String more : new String[] {
            "g", "a", "a1 ", "c", "c1 ", "c1 2 ", "c1 2 3 ", "s", "s1 ", "s1 2 ", "s1 2 3 "}) {
            place(more + "1", " " + DIGITS);
            place(more + "123", " ");
            place(more + "1 ", " " + DIGITS);
        }
        for (String last : new String[] {"g1 ", "a1 2 ", "c1 2 3 4 ", "s1 2 3 4 "}) {
            place(last + "1", " ;" + DIGITS);
            place(last + "12", " ;" + DIGITS);
            place(last + "123", " ;");
            place(last + "1 ", " ;");
        }
    }

    private static void place(String before, String canStand) {
        for (int c = 0; c <= 127; c++) {
            LinkNames x = new LinkNames();
            boolean isFault = Checks.reads(x, before + (char) c) == -10 - before.length();
            holds("byte " + c + " behind \"" + before + "\" is the fault, or can stand there",
                    isFault == (canStand.indexOf(c) < 0));
        }
    }

    private static void endsTooEarly() {
        sentence("or the length of the text if it ends too early (also if it contains no order).");
        fault("", 0);
        fault(" ", 1);
        fault(" ".repeat(120), 120);
        String text = " c 0 9 3 255 60 ; z0 1 ;";
        for (int length = 0; length < text.length(); length++) {
            boolean endsWithAnOrder = text.substring(0, length).trim().endsWith(";");
            if (!endsWithAnOrder) {
                fault(text.substring(0, length), length);
            }
        }
        performed(" c 0 9 3 255 60 ;", 1);
        performed(" c 0 9 3 255 60 ; ", 1);
        performed(text, 2);
    }

    private static void firstFault() {
        sentence("the first byte that cannot stand at its place");
        fault("xh;y", 0);
        fault("h;yx", 2);
        fault("h;h1;x", 3);
        fault("t12345 6 7;", 4);
        fault("t0;w9;z9 9;q", 11);
        fault(" ".repeat(119) + "x", 119);
    }
}

import java.io.IOException;
import java.nio.file.Files;
import java.nio.file.Path;
import java.util.function.IntSupplier;

/**
 * What the tests of the document's edges have in common. Each of their methods begins with the sentence of the document
 * that it is for: a wrong answer is printed with it, and it must stand in the document as it is quoted.
 */
class Edges {
    static final int NONE = LinkNames.NONE;
    static final int BAD = LinkNames.BAD;
    static final int NO = LinkNames.NO;
    static final int FULL = LinkNames.FULL;
    /** Numbers that no host has while there are six of them. */
    static final int[] NO_HOST = {-1, 6, Integer.MIN_VALUE, Integer.MAX_VALUE};

    private static final Checks CHECKS = new Checks();
    private static final String DOCUMENT = document();
    private static String sentence = "";

    private static String document() {
        try {
            return inOneLine(Files.readString(Path.of("../shared/DOC.md")));
        } catch (IOException missing) {
            System.out.println("the document cannot be read here, so the quotations are not compared with it");
            return "";
        }
    }

    private static String inOneLine(String text) {
        return text.replaceAll("\\s+", " ");
    }

    static void sentence(String quoted) {
        sentence = "";
        holds("the document says: " + quoted, DOCUMENT.isEmpty() || DOCUMENT.contains(inOneLine(quoted)));
        sentence = "\"" + quoted + "\" ";
    }

    static void due(String call, long got, long want) {
        CHECKS.due(sentence + call, got, want);
    }

    static void holds(String what, boolean condition) {
        CHECKS.holds(sentence + what, condition);
    }

    static void end(String test) {
        CHECKS.end(test);
    }

    /** A call that must be refused: it is counted as its error, and changes nothing else that digest() tells. */
    static void refused(String call, LinkNames x, int error, IntSupplier made) {
        refusedWith(error, call, x, error, made);
    }

    static void refusedWith(int answer, String call, LinkNames x, int error, IntSupplier made) {
        long before = x.digest();
        due(call, made.getAsInt(), answer);
        due(call + ": digest(), in which the count of its error alone has grown", x.digest(),
                digestWithOneMore(x, before, BAD - error));
    }

    /** A call that answers without an error and must change nothing that digest() tells. */
    static void changesNothing(String call, LinkNames x, int answer, IntSupplier made) {
        long before = x.digest();
        due(call, made.getAsInt(), answer);
        due(call + ": digest(), which is as before", x.digest(), before);
    }

    /** What a digest becomes if told(total) alone grows by 1. */
    static long digestWithOneMore(LinkNames x, long digest, int total) {
        return digest + power(31, valuesOfDigest(x) - 1 - total);
    }

    private static int valuesOfDigest(LinkNames x) {
        int values = 11 + 2 + 1 + 4;
        int hosts = x.told(4);
        for (int h = 0; h < hosts; h++) {
            values += 6 + 8 * x.of(h, 0) + 5 * x.of(h, 3);
        }
        return values;
    }

    private static long power(long base, int exponent) {
        long power = 1;
        for (int i = 0; i < exponent; i++) {
            power *= base;
        }
        return power;
    }

    /** What record() must answer for what = 0 to 7. */
    static void record(String which, LinkNames x, int h, int r, int... properties) {
        for (int what = 0; what < properties.length; what++) {
            due(which + ": record(" + h + ", " + r + ", " + what + ")", x.record(h, r, what), properties[what]);
        }
    }

    /** What entry() must answer for what = 0 to 4. */
    static void entry(String which, LinkNames x, int h, int i, int... properties) {
        for (int what = 0; what < properties.length; what++) {
            due(which + ": entry(" + h + ", " + i + ", " + what + ")", x.entry(h, i, what), properties[what]);
        }
    }

    /** A link with some hosts, after some orders. */
    static LinkNames after(int hosts, String orders) {
        LinkNames x = Checks.withHosts(hosts);
        holds("these orders can be performed: " + orders, Checks.reads(x, orders) > 0);
        x.clear();
        return x;
    }
}

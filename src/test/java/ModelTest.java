import java.util.Arrays;

/** Long runs of calls, as if by chance but the same each time: the program and the model must give the same answers. */
public final class ModelTest {
    private static final int RUNS = 2000;
    private static final int CALLS = 512;

    private final Checks checks;
    private final int run;
    private final LinkNames program = new LinkNames();
    private final Model model = new Model();
    private int calls;
    private long seed;
    private final int names;
    private final int data;
    private final int lives;

    private ModelTest(Checks checks, int run) {
        this.checks = checks;
        this.run = run;
        seed = run * 0x9E3779B97F4A7C15L + 77;
        // The fewer names and data there are, the more often hosts meet.
        names = 1 + pick(run % 2 == 0 ? 16 : 5);
        data = 1 + pick(run % 4 == 0 ? 256 : 5);
        lives = run % 3 == 0 ? 60 : 12;
    }

    private int pick(int below) {
        seed = seed * 6364136223846793005L + 1442695040888963407L;
        return (int) ((seed >>> 33) % below);
    }

    /** Mostly a value from the range, now and then one beyond it. */
    private int near(int least, int most) {
        switch (pick(60)) {
            case 0:
                return least - 1;
            case 1:
                return most + 1;
            case 2:
                return pick(2) == 0 ? Integer.MIN_VALUE : Integer.MAX_VALUE;
            default:
                return least + pick(most - least + 1);
        }
    }

    public static void main(String[] args) {
        Checks checks = new Checks();
        for (int run = 0; run < RUNS; run++) {
            new ModelTest(checks, run).compare();
        }
        checks.end("ModelTest");
    }

    private void compare() {
        for (int h = pick(6); h > 0; h--) {
            both("host");
        }
        while (calls < CALLS - 1) {
            if (pick(40) == 0) {
                for (char c : text().toCharArray()) {
                    both("type", c);
                }
                both("reads");
                if (pick(3) > 0) {
                    both("clear");
                }
            } else {
                next();
            }
            if (pick(4) == 0) {
                both("digest");
            }
        }
        both("digest");
    }

    private void next() {
        int h = near(0, 5);
        int name = near(0, names - 1);
        int kind = pick(10) == 0 ? near(0, 3) : 0;
        switch (pick(28)) {
            case 0:
                both("host"); break;
            case 1: case 2: case 3: case 4: case 5:
                both("claims", h, name, kind, near(0, data - 1), near(2, lives)); break;
            case 6: case 7:
                both("shares", h, name, kind, near(0, data - 1), near(2, lives)); break;
            case 8: case 24: case 25: case 26:
                both("leaves", h, near(0, 2)); break;
            case 9:
                both("record", h, near(0, 4), near(0, 7)); break;
            case 10:
                both("of", h, near(0, 5)); break;
            case 11: case 12: case 13:
                both("ticks", pick(12) == 0 ? near(1, 60) : near(1, 2)); break;
            case 14:
                both("rate"); break;
            case 15: case 16:
                both("asks", h, name, kind); break;
            case 17:
                both("entry", h, near(0, 6), near(0, 4)); break;
            case 18:
                both("finds", h, name, kind, near(0, 2)); break;
            case 19:
                both("owner", name, kind, near(0, 2)); break;
            case 20:
                both("sleeps", h, near(-1, 5)); break;
            case 21:
                both("wakes", h); break;
            case 22:
                both("back"); break;
            default:
                String[] totals = {"all", "why", "told"};
                int which = pick(3);
                both(totals[which], near(0, new int[] {3, 1, 10}[which])); break;
        }
    }

    /** A text of some orders, of which one may be spoiled by a byte. */
    private String text() {
        StringBuilder text = new StringBuilder();
        int orders = 1 + pick(5);
        for (int i = 0; i < orders; i++) {
            space(text, 0);
            int[] numbers = {near(0, 4), Math.abs(near(0, names - 1)) % 1000, 0, near(0, data - 1), near(2, lives)};
            char letter = "htwzzcccsaag".charAt(pick(12));
            int count = letter == 'h' ? 0 : letter == 't' || letter == 'w' ? 1 : letter == 'z' ? 1 + pick(2)
                    : letter == 'g' ? 2 : letter == 'a' ? 3 : 5;
            text.append(letter);
            for (int at = 0; at < count; at++) {
                space(text, at == 0 ? 0 : 1);
                text.append(Math.floorMod(letter == 't' ? near(1, 6) : numbers[at], 1000));
            }
            space(text, 0);
            text.append(';');
        }
        space(text, 0);
        if (pick(3) == 0) {
            spoil(text);
        }
        return text.toString();
    }

    private void space(StringBuilder text, int least) {
        int spaces = least + (pick(5) == 0 ? 1 + pick(2) : 0);
        for (int i = 0; i < spaces; i++) {
            text.append(' ');
        }
    }

    private void spoil(StringBuilder text) {
        int at = pick(text.length());
        switch (pick(3)) {
            case 0:
                text.deleteCharAt(at);
                break;
            case 1:
                text.insert(at, " ;019htwzcsagHx\t".charAt(pick(16)));
                break;
            default:
                text.setCharAt(at, (char) pick(128));
                break;
        }
    }

    /** Nothing is promised after the 512th call, which is kept for the digest. */
    private void both(String method, int... a) {
        if (calls >= CALLS || calls == CALLS - 1 && !method.equals("digest")) {
            return;
        }
        calls++;
        checks.due("run " + run + ", call " + calls + ": " + method + Arrays.toString(a), onProgram(program, method, a),
                model.call(method, a));
    }

    private static long onProgram(LinkNames x, String method, int... a) {
        switch (method) {
            case "host": return x.host();
            case "claims": return x.claims(a[0], a[1], a[2], a[3], a[4]);
            case "shares": return x.shares(a[0], a[1], a[2], a[3], a[4]);
            case "leaves": return x.leaves(a[0], a[1]);
            case "record": return x.record(a[0], a[1], a[2]);
            case "of": return x.of(a[0], a[1]);
            case "ticks": return x.ticks(a[0]);
            case "rate": return x.rate();
            case "asks": return x.asks(a[0], a[1], a[2]);
            case "entry": return x.entry(a[0], a[1], a[2]);
            case "finds": return x.finds(a[0], a[1], a[2], a[3]);
            case "owner": return x.owner(a[0], a[1], a[2]);
            case "all": return x.all(a[0]);
            case "sleeps": return x.sleeps(a[0], a[1]);
            case "wakes": return x.wakes(a[0]);
            case "type": return x.type(a[0]);
            case "clear": return x.clear();
            case "reads": return x.reads();
            case "why": return x.why(a[0]);
            case "back": return x.back();
            case "told": return x.told(a[0]);
            default: return x.digest();
        }
    }
}

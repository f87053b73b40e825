import java.util.ArrayList;
import java.util.Arrays;
import java.util.List;

/** Long runs of calls that look random but are the same each time: the program and the model must give the same answers. */
public final class ModelTest {
    private static final int RUNS = 600;
    private static final int CALLS = 512;

    private long seed;

    private ModelTest(long seed) {
        this.seed = seed * 0x9E3779B97F4A7C15L + 77;
    }

    private int pick(int below) {
        seed = seed * 6364136223846793005L + 1442695040888963407L;
        return (int) ((seed >>> 33) % below);
    }

    /** Mostly a value from the range, now and then one beyond it. */
    private int near(int least, int most) {
        switch (pick(60)) {
            case 0:
                return least - 1;
            case 1:
                return most + 1;
            case 2:
                return pick(2) == 0 ? Integer.MIN_VALUE : Integer.MAX_VALUE;
            default:
                return least + pick(most - least + 1);
        }
    }

    public static void main(String[] args) {
        Checks checks = new Checks();
        for (int run = 0; run < RUNS; run++) {
            new ModelTest(run).compare(checks, run);
        }
        checks.end("ModelTest");
    }

    private void compare(Checks checks, int run) {
        LinkNames program = new LinkNames();
        Model model = new Model();
        // The fewer names and data there are, the more often hosts meet.
        int names = 1 + pick(run % 5 == 0 ? 16 : 4);
        int data = 1 + pick(run % 4 == 0 ? 256 : 5);
        int lives = run % 3 == 0 ? 60 : 12;
        List<String> calls = new ArrayList<>();
        for (int made = 0; made < CALLS; ) {
            if (pick(25) == 0) {
                for (char c : text(names, data, lives).toCharArray()) {
                    made++;
                    both(checks, calls, run, program, model, "type", c);
                }
                both(checks, calls, run, program, model, "reads");
                if (pick(3) > 0) {
                    both(checks, calls, run, program, model, "clear");
                }
            } else {
                next(checks, calls, run, program, model, names, data, lives);
            }
            both(checks, calls, run, program, model, "digest");
            made += 3;
        }
    }

    private void next(Checks checks, List<String> calls, int run, LinkNames program, Model model, int names, int data,
            int lives) {
        int h = near(0, 5);
        int name = near(0, names - 1);
        int kind = pick(10) == 0 ? near(0, 3) : 0;
        switch (pick(24)) {
            case 0: case 1:
                both(checks, calls, run, program, model, "host"); break;
            case 2: case 3: case 4: case 5:
                both(checks, calls, run, program, model, "claims", h, name, kind, near(0, data - 1), near(2, lives)); break;
            case 6: case 7:
                both(checks, calls, run, program, model, "shares", h, name, kind, near(0, data - 1), near(2, lives)); break;
            case 8:
                both(checks, calls, run, program, model, "leaves", h, near(0, 2)); break;
            case 9:
                both(checks, calls, run, program, model, "record", h, near(0, 4), near(0, 7)); break;
            case 10:
                both(checks, calls, run, program, model, "of", h, near(0, 5)); break;
            case 11: case 12: case 13:
                both(checks, calls, run, program, model, "ticks", pick(12) == 0 ? near(1, 60) : near(1, 3)); break;
            case 14:
                both(checks, calls, run, program, model, "rate"); break;
            case 15: case 16:
                both(checks, calls, run, program, model, "asks", h, name, kind); break;
            case 17:
                both(checks, calls, run, program, model, "entry", h, near(0, 6), near(0, 4)); break;
            case 18:
                both(checks, calls, run, program, model, "finds", h, name, kind, near(0, 2)); break;
            case 19:
                both(checks, calls, run, program, model, "owner", name, kind, near(0, 2)); break;
            case 20:
                both(checks, calls, run, program, model, "sleeps", h, near(-1, 5)); break;
            case 21:
                both(checks, calls, run, program, model, "wakes", h); break;
            case 22:
                both(checks, calls, run, program, model, "back"); break;
            default:
                String[] totals = {"all", "why", "told"};
                int which = pick(3);
                both(checks, calls, run, program, model, totals[which], near(0, new int[] {3, 1, 10}[which])); break;
        }
    }

    /** A text of some orders, of which one may be spoiled by a byte. */
    private String text(int names, int data, int lives) {
        StringBuilder text = new StringBuilder();
        int orders = 1 + pick(5);
        for (int i = 0; i < orders; i++) {
            space(text, 0);
            int[] numbers = {near(0, 4), Math.abs(near(0, names - 1)) % 1000, 0, near(0, data - 1), near(2, lives)};
            char letter = "htwzzcccsaag".charAt(pick(12));
            int count = letter == 'h' ? 0 : letter == 't' || letter == 'w' ? 1 : letter == 'z' ? 1 + pick(2)
                    : letter == 'g' ? 2 : letter == 'a' ? 3 : 5;
            text.append(letter);
            for (int at = 0; at < count; at++) {
                space(text, at == 0 ? 0 : 1);
                text.append(Math.floorMod(letter == 't' ? near(1, 6) : numbers[at], 1000));
            }
            space(text, 0);
            text.append(';');
        }
        space(text, 0);
        if (pick(3) == 0) {
            spoil(text);
        }
        return text.toString();
    }

    private void space(StringBuilder text, int least) {
        int spaces = least + (pick(5) == 0 ? 1 + pick(2) : 0);
        for (int i = 0; i < spaces; i++) {
            text.append(' ');
        }
    }

    private void spoil(StringBuilder text) {
        int at = pick(text.length());
        switch (pick(3)) {
            case 0:
                text.deleteCharAt(at);
                break;
            case 1:
                text.insert(at, " ;019htwzcsagHx\t".charAt(pick(16)));
                break;
            default:
                text.setCharAt(at, (char) pick(128));
                break;
        }
    }

    private static void both(Checks checks, List<String> calls, int run, LinkNames program, Model model, String method,
            int... a) {
        String call = method + Arrays.toString(a);
        calls.add(call);
        checks.due("run " + run + ", call " + calls.size() + ": " + call, onProgram(program, method, a),
                model.call(method, a));
    }

    private static long onProgram(LinkNames x, String method, int... a) {
        switch (method) {
            case "host": return x.host();
            case "claims": return x.claims(a[0], a[1], a[2], a[3], a[4]);
            case "shares": return x.shares(a[0], a[1], a[2], a[3], a[4]);
            case "leaves": return x.leaves(a[0], a[1]);
            case "record": return x.record(a[0], a[1], a[2]);
            case "of": return x.of(a[0], a[1]);
            case "ticks": return x.ticks(a[0]);
            case "rate": return x.rate();
            case "asks": return x.asks(a[0], a[1], a[2]);
            case "entry": return x.entry(a[0], a[1], a[2]);
            case "finds": return x.finds(a[0], a[1], a[2], a[3]);
            case "owner": return x.owner(a[0], a[1], a[2]);
            case "all": return x.all(a[0]);
            case "sleeps": return x.sleeps(a[0], a[1]);
            case "wakes": return x.wakes(a[0]);
            case "type": return x.type(a[0]);
            case "clear": return x.clear();
            case "reads": return x.reads();
            case "why": return x.why(a[0]);
            case "back": return x.back();
            case "told": return x.told(a[0]);
            default: return x.digest();
        }
    }
}

import java.util.ArrayDeque;
import java.util.ArrayList;
import java.util.Deque;
import java.util.HashSet;
import java.util.List;
import java.util.Set;
import java.util.regex.Matcher;
import java.util.regex.Pattern;

/**
 * The document told a second time, with the whole Java library and other means than the program's: lists that are
 * copied, a regular expression for the text. The two are compared on long runs.
 */
final class Model {
    static final int NONE = -1, BAD = -2, NO = -3, FULL = -4;

    private record Key(int name, int kind, int data) {
        boolean under(int aName, int aKind) {
            return name == aName && kind == aKind;
        }
    }

    private static final class Rec {
        Key key;
        int life;
        int stage;
        int wait;
        boolean sole;

        Rec copy() {
            Rec copy = new Rec();
            copy.key = key;
            copy.life = life;
            copy.stage = stage;
            copy.wait = wait;
            copy.sole = sole;
            return copy;
        }

        boolean oneNameWith(Rec other) {
            return key.under(other.key.name, other.key.kind);
        }
    }

    private record Kept(Key key, int life, int end) {
        Kept endingBy(int latest) {
            return end > latest ? new Kept(key, life, latest) : this;
        }
    }

    private static final class Node {
        List<Rec> records = new ArrayList<>();
        List<Kept> cache = new ArrayList<>();
        boolean awake = true;
        Node proxy;
        int proxyNumber = NONE;
    }

    private static final class State {
        List<Node> nodes = new ArrayList<>();
        int time;
        int messages;
        int sinceTick;
        int probes;
        int moves;
        int suppressed;
        float rate;

        State copy() {
            State copy = new State();
            for (Node node : nodes) {
                Node twin = new Node();
                for (Rec rec : node.records) {
                    twin.records.add(rec.copy());
                }
                twin.cache.addAll(node.cache);
                twin.awake = node.awake;
                twin.proxyNumber = node.proxyNumber;
                copy.nodes.add(twin);
            }
            for (Node twin : copy.nodes) {
                twin.proxy = twin.proxyNumber == NONE ? null : copy.nodes.get(twin.proxyNumber);
            }
            copy.time = time;
            copy.messages = messages;
            copy.sinceTick = sinceTick;
            copy.probes = probes;
            copy.moves = moves;
            copy.suppressed = suppressed;
            copy.rate = rate;
            return copy;
        }
    }

    private static final String N = "[0-9]{1,3}";
    private static final Pattern TEXT = Pattern.compile("( *(h|[tw] *" + N + "|z *" + N + "( +" + N + ")?|[cs] *" + N
            + "( +" + N + "){4}|a *" + N + "( +" + N + "){2}|g *" + N + " +" + N + ") *;)+ *");

    private State now = new State();
    private final Deque<State> saved = new ArrayDeque<>();
    private String text = "";
    private final int[] errors = new int[3];
    private int whyError;
    private int whyOrder = NONE;

    /** Calls a method of the face by its name. */
    long call(String method, int... a) {
        switch (method) {
            case "type":
                return counted(type(a[0]));
            case "clear":
                int had = text.length();
                text = "";
                return had;
            case "reads":
                return reads();
            case "why":
                return why(a[0]);
            case "back":
                if (saved.isEmpty()) {
                    return counted(NO);
                }
                now = saved.removeLast();
                return saved.size();
            case "told":
                return counted(told(a[0]));
            case "digest":
                return digest();
            default:
                return query(method, a) ? counted(answer(method, a)) : step(method, a);
        }
    }

    private static boolean query(String method, int... a) {
        return Set.of("record", "of", "rate", "entry", "finds", "owner", "all").contains(method);
    }

    private int counted(int answer) {
        if (answer <= BAD && answer >= FULL) {
            errors[BAD - answer]++;
        }
        return answer;
    }

    private int step(String method, int... a) {
        State before = now.copy();
        int answer = act(method, a);
        if (answer >= 0) {
            save(before);
        }
        return counted(answer);
    }

    private void save(State before) {
        saved.addLast(before);
        if (saved.size() > 5) {
            saved.removeFirst();
        }
    }

    private int act(String method, int... a) {
        switch (method) {
            case "host":
                if (now.nodes.size() == 6) {
                    return FULL;
                }
                now.nodes.add(new Node());
                return now.nodes.size() - 1;
            case "claims":
                return add(true, a);
            case "shares":
                return add(false, a);
            case "leaves":
                return leaves(a[0], a[1]);
            case "ticks":
                return ticks(a[0]);
            case "asks":
                return asks(a[0], a[1], a[2]);
            case "sleeps":
                return sleeps(a[0], a[1]);
            case "wakes":
                return wakes(a[0]);
            default:
                throw new IllegalArgumentException(method);
        }
    }

    private Node node(int h) {
        return h < 0 || h >= now.nodes.size() ? null : now.nodes.get(h);
    }

    private static boolean in(int value, int least, int most) {
        return least <= value && value <= most;
    }

    private int add(boolean sole, int... a) {
        Node node = node(a[0]);
        if (node == null || !in(a[1], 0, 15) || !in(a[2], 0, 3) || !in(a[3], 0, 255) || !in(a[4], 2, 60)) {
            return BAD;
        }
        if (!node.awake || node.records.stream().anyMatch(r -> r.key.under(a[1], a[2]))) {
            return NO;
        }
        if (node.records.size() == 5) {
            return FULL;
        }
        Rec rec = new Rec();
        rec.key = new Key(a[1], a[2], a[3]);
        rec.life = a[4];
        rec.sole = sole;
        rec.stage = sole ? 0 : 3;
        node.records.add(rec);
        if (!sole) {
            announce(node, rec);
        }
        return node.records.size() - 1;
    }

    private void announce(Node speaker, Rec rec) {
        for (Node node : now.nodes) {
            if (node != speaker) {
                hear(node, rec);
            }
        }
        now.messages++;
        now.sinceTick++;
    }

    private void hear(Node node, Rec rec) {
        if (!node.awake || node.records.stream().anyMatch(r -> r.key.equals(rec.key))) {
            return;
        }
        node.cache.removeIf(e -> e.key.equals(rec.key));
        if (node.cache.size() == 6) {
            node.cache.remove(0);
        }
        if (rec.sole) {
            node.cache.replaceAll(e -> e.key.under(rec.key.name, rec.key.kind) ? e.endingBy(now.time + 1) : e);
        }
        node.cache.add(new Kept(rec.key, rec.life, now.time + rec.life));
    }

    private Node voice(Node node) {
        if (node.awake) {
            return node;
        }
        return node.proxy != null && node.proxy.awake ? node.proxy : null;
    }

    private boolean defended(Node node, Rec rec) {
        return rec.stage == 3 && rec.sole && voice(node) != null;
    }

    private int leaves(int h, int r) {
        Node node = node(h);
        if (node == null || r < 0 || r >= node.records.size()) {
            return BAD;
        }
        if (!node.awake) {
            return NO;
        }
        Rec gone = node.records.remove(r);
        if (gone.stage == 3) {
            now.messages++;
            now.sinceTick++;
            for (Node other : now.nodes) {
                if (other.awake) {
                    other.cache.replaceAll(e -> e.key.equals(gone.key) ? e.endingBy(now.time + 1) : e);
                }
            }
        }
        return node.records.size();
    }

    private int ticks(int n) {
        if (!in(n, 1, 60)) {
            return BAD;
        }
        int before = now.messages;
        for (int i = 0; i < n; i++) {
            now.time++;
            for (Node node : now.nodes) {
                node.cache.removeIf(e -> e.end <= now.time);
            }
            for (Node node : now.nodes) {
                for (Rec rec : node.records) {
                    if (node.awake && rec.stage < 3) {
                        probe(node, rec);
                    }
                }
            }
            float g = (float) now.sinceTick;
            float old = now.rate * 0.75f;
            float fresh = g * 0.25f;
            now.rate = old + fresh;
            now.sinceTick = 0;
        }
        return now.messages - before;
    }

    private boolean contested(Node node, Rec rec) {
        return now.nodes.stream().anyMatch(other -> other != node && other.records.stream().anyMatch(
                r -> r.oneNameWith(rec) && r.key.data != rec.key.data && defended(other, r)));
    }

    private void probe(Node node, Rec rec) {
        if (rec.wait > 0) {
            rec.wait--;
            return;
        }
        now.probes++;
        if (contested(node, rec)) {
            rec.key = new Key(rec.key.name == 15 ? 0 : rec.key.name + 1, rec.key.kind, rec.key.data);
            rec.stage = 0;
            rec.wait = 0;
            now.moves++;
            return;
        }
        for (Node other : now.nodes) {
            for (Rec r : other.records) {
                if (other != node && other.awake && r.stage != 3 && r.oneNameWith(rec) && r.key.data > rec.key.data) {
                    rec.stage = 0;
                    rec.wait = 1;
                    return;
                }
            }
        }
        rec.stage++;
        if (rec.stage == 3) {
            announce(node, rec);
        }
    }

    private int asks(int h, int name, int kind) {
        Node asker = node(h);
        if (asker == null || !in(name, 0, 15) || !in(kind, 0, 3)) {
            return BAD;
        }
        if (!asker.awake) {
            return NO;
        }
        Set<Integer> silent = new HashSet<>();
        for (Kept kept : asker.cache) {
            if (kept.key.under(name, kind) && 2 * (kept.end - now.time) >= kept.life) {
                silent.add(kept.key.data);
            }
        }
        int announced = 0;
        for (Node node : now.nodes) {
            for (Rec rec : node.records) {
                if (node == asker || rec.stage != 3 || !rec.key.under(name, kind) || voice(node) == null) {
                    continue;
                }
                if (silent.add(rec.key.data)) {
                    announce(voice(node), rec);
                    announced++;
                } else {
                    now.suppressed++;
                }
            }
        }
        return announced;
    }

    private static int owned(Node node) {
        return (int) node.records.stream().filter(r -> r.stage == 3).count();
    }

    private int sleeps(int h, int p) {
        Node node = node(h);
        Node proxy = node(p);
        if (node == null || node == proxy || proxy == null && p != NONE) {
            return BAD;
        }
        if (!node.awake || proxy != null && !proxy.awake) {
            return NO;
        }
        node.awake = false;
        node.proxy = proxy;
        node.proxyNumber = p;
        return owned(node);
    }

    private int wakes(int h) {
        Node node = node(h);
        if (node == null) {
            return BAD;
        }
        if (node.awake) {
            return NO;
        }
        node.awake = true;
        node.proxy = null;
        node.proxyNumber = NONE;
        int announced = 0;
        for (Rec rec : node.records) {
            if (rec.stage == 3 && rec.sole && contested(node, rec)) {
                rec.stage = 0;
                rec.wait = 0;
            } else if (rec.stage == 3) {
                announce(node, rec);
                announced++;
            }
        }
        return announced;
    }

    private int answer(String method, int... a) {
        switch (method) {
            case "record":
                return record(a[0], a[1], a[2]);
            case "of":
                return of(a[0], a[1]);
            case "rate":
                return Float.floatToIntBits(now.rate);
            case "entry":
                return entry(a[0], a[1], a[2]);
            case "finds":
                return finds(a[0], a[1], a[2], a[3]);
            case "owner":
                return owner(a[0], a[1], a[2]);
            case "all":
                return all(a[0]);
            default:
                throw new IllegalArgumentException(method);
        }
    }

    private int record(int h, int r, int what) {
        Node node = node(h);
        if (node == null || r < 0 || r >= node.records.size() || !in(what, 0, 7)) {
            return BAD;
        }
        Rec rec = node.records.get(r);
        int[] properties = {rec.key.name, rec.key.kind, rec.key.data, rec.life, rec.stage, rec.wait, rec.sole ? 1 : 0,
            defended(node, rec) ? 1 : 0};
        return properties[what];
    }

    private int of(int h, int what) {
        Node node = node(h);
        if (node == null || !in(what, 0, 5)) {
            return BAD;
        }
        int wards = 0;
        for (Node other : now.nodes) {
            if (other.proxy == node) {
                wards += 1 << now.nodes.indexOf(other);
            }
        }
        int[] properties = {node.records.size(), node.awake ? 1 : 0, node.proxyNumber, node.cache.size(), owned(node),
            wards};
        return properties[what];
    }

    private int entry(int h, int i, int what) {
        Node node = node(h);
        if (node == null || i < 0 || !in(what, 0, 4)) {
            return BAD;
        }
        if (i >= node.cache.size()) {
            return NONE;
        }
        Kept kept = node.cache.get(i);
        int[] properties = {kept.key.name, kept.key.kind, kept.key.data, kept.life, kept.end - now.time};
        return properties[what];
    }

    private int finds(int h, int name, int kind, int what) {
        Node node = node(h);
        if (node == null || !in(name, 0, 15) || !in(kind, 0, 3) || !in(what, 0, 2)) {
            return BAD;
        }
        List<Kept> found = node.cache.stream().filter(e -> e.key.under(name, kind)).toList();
        if (what == 1) {
            return found.size();
        }
        if (found.isEmpty()) {
            return NONE;
        }
        return what == 0 ? found.get(found.size() - 1).key.data
                : found.stream().mapToInt(Kept::end).max().getAsInt() - now.time;
    }

    private int owner(int name, int kind, int what) {
        if (!in(name, 0, 15) || !in(kind, 0, 3) || !in(what, 0, 2)) {
            return BAD;
        }
        List<Integer> owners = new ArrayList<>();
        List<Integer> data = new ArrayList<>();
        for (int h = 0; h < now.nodes.size(); h++) {
            Node node = now.nodes.get(h);
            List<Rec> found = node.records.stream().filter(r -> r.key.under(name, kind) && defended(node, r)).toList();
            if (!found.isEmpty()) {
                owners.add(h);
                data.add(found.get(0).key.data);
            }
        }
        if (what == 2) {
            return owners.size();
        }
        return owners.isEmpty() ? NONE : what == 0 ? owners.get(0) : data.get(0);
    }

    private int all(int what) {
        Set<Key> owned = new HashSet<>();
        int[] sums = new int[4];
        for (Node node : now.nodes) {
            node.records.stream().filter(r -> r.stage == 3).forEach(r -> owned.add(r.key));
            sums[0] += node.cache.size();
            sums[2] += node.records.size() - owned(node);
            sums[3] += node.awake ? 1 : 0;
        }
        for (Node node : now.nodes) {
            sums[1] += (int) node.cache.stream().filter(e -> !owned.contains(e.key)).count();
        }
        return in(what, 0, 3) ? sums[what] : BAD;
    }

    private int type(int c) {
        if (!in(c, 0, 127)) {
            return BAD;
        }
        if (text.length() == 120) {
            return FULL;
        }
        text += (char) c;
        return text.length();
    }

    /** The first byte after which no continuation could make the text a good one, or its length; NONE if it is good. */
    private int fault() {
        for (int length = 1; length <= text.length(); length++) {
            Matcher matcher = TEXT.matcher(text.substring(0, length));
            if (!matcher.matches() && !matcher.hitEnd()) {
                return length - 1;
            }
        }
        return TEXT.matcher(text).matches() ? NONE : text.length();
    }

    private int reads() {
        int fault = fault();
        if (fault != NONE) {
            return -10 - fault;
        }
        State before = now.copy();
        List<String> orders = new ArrayList<>(List.of(text.split(";")));
        orders.removeIf(String::isBlank);
        for (int i = 0; i < orders.size(); i++) {
            int answer = perform(orders.get(i).trim());
            if (answer < 0) {
                now = before;
                whyError = answer;
                whyOrder = i;
                return -1000 - i;
            }
        }
        save(before);
        return orders.size();
    }

    private int perform(String order) {
        String rest = order.substring(1).trim();
        String[] words = rest.isEmpty() ? new String[0] : rest.split(" +");
        int[] a = new int[words.length];
        for (int i = 0; i < a.length; i++) {
            a[i] = Integer.parseInt(words[i]);
        }
        switch (order.charAt(0)) {
            case 'h':
                return act("host");
            case 't':
                return act("ticks", a);
            case 'w':
                return act("wakes", a);
            case 'z':
                return a.length == 2 ? act("sleeps", a) : act("sleeps", a[0], NONE);
            case 'c':
                return act("claims", a);
            case 's':
                return act("shares", a);
            case 'a':
                return act("asks", a);
            default:
                return act("leaves", a);
        }
    }

    private int why(int what) {
        if (!in(what, 0, 1)) {
            errors[0]++;
            return -10;
        }
        return what == 0 ? whyError : whyOrder;
    }

    private int told(int what) {
        int[] totals = {errors[0], errors[1], errors[2], text.length(), now.nodes.size(), now.time, now.messages,
            now.probes, now.moves, now.suppressed, saved.size()};
        return in(what, 0, 10) ? totals[what] : BAD;
    }

    private long digest() {
        List<Integer> values = new ArrayList<>();
        for (int what = 0; what <= 10; what++) {
            values.add(told(what));
        }
        values.add(why(0));
        values.add(why(1));
        for (int h = 0; h < now.nodes.size(); h++) {
            for (int what = 0; what <= 5; what++) {
                values.add(of(h, what));
            }
            for (int r = 0; r < now.nodes.get(h).records.size(); r++) {
                for (int what = 0; what <= 7; what++) {
                    values.add(record(h, r, what));
                }
            }
            for (int i = 0; i < now.nodes.get(h).cache.size(); i++) {
                for (int what = 0; what <= 4; what++) {
                    values.add(entry(h, i, what));
                }
            }
        }
        values.add(Float.floatToIntBits(now.rate));
        for (int what = 0; what <= 3; what++) {
            values.add(all(what));
        }
        long hash = 2309;
        for (int value : values) {
            hash = 31 * hash + value;
        }
        return hash;
    }
}

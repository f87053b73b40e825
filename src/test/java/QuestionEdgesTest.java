/** The edges under "QUESTIONS, GOODBYES, SLEEP" in the description: a method for each sentence. */
public final class QuestionEdgesTest extends Edges {
    public static void main(String[] args) {
        known();
        knownWhenItBegins();
        knownForAllData();
        considered();
        suppressed();
        announcedByWhom();
        removed();
        goodbye();
        fallsAsleep();
        wakesUp();
        end("QuestionEdgesTest");
    }

    private static void known() {
        sentence("Data are known if, when the question begins, its cache has an entry with this name, kind and data"
                + " for which 2 * (end - time) is at least the life.");
        int[] lives = {2, 3, 10, 11, 59, 60};
        int[] lastKnown = {1, 1, 5, 5, 29, 30};
        for (int i = 0; i < lives.length; i++) {
            LinkNames x = Checks.withHosts(2);
            x.shares(0, 1, 0, 7, lives[i]);
            due("at once", x.asks(1, 1, 0), 0);
            x.ticks(lastKnown[i]);
            due("life " + lives[i] + ", known for the last time", x.asks(1, 1, 0), 0);
            due("suppressed", x.told(9), 2);
            x.ticks(1);
            due("life " + lives[i] + ", a tick later", x.asks(1, 1, 0), 1);
            due("not suppressed", x.told(9), 2);
        }
        LinkNames y = after(3, "s0 1 0 7 60;z0 1;");
        due("the proxy knows its sleeper's data", y.asks(1, 1, 0), 0);
        due("suppressed", y.told(9), 1);
        LinkNames z = after(4, "z3;s0 1 0 7 60;w3;s1 1 1 7 60;s1 2 0 7 60;s2 1 0 8 60;");
        due("another kind, another name or other data do not make it known", z.asks(3, 1, 0), 1);
        due("8 is known", z.told(9), 1);
        // The entry's life counts, not that of the record: host 1 heard the same data again with another life.
        LinkNames w = after(4, "s0 1 0 7 4;s2 1 0 7 60;t3;z2;");
        due("the life of the entry", w.asks(1, 1, 0), 0);
        LinkNames v = after(4, "s2 1 0 7 60;s0 1 0 7 4;t3;");
        due("the life of the entry", v.asks(1, 1, 0), 1);
    }

    private static void knownWhenItBegins() {
        sentence("Data are known if, when the question begins,");
        // Host 2 has a full cache, whose oldest entry is of host 1's data; those of host 0 take its place.
        LinkNames x = after(3,
                "s1 1 0 20 60;s1 2 0 7 60;s1 3 0 7 60;s1 4 0 7 60;s1 5 0 7 60;s0 9 0 7 60;z2;s0 1 0 10 60;w2;");
        due("six entries", x.of(2, 3), 6);
        due("data 10 are announced, 20 were known", x.asks(2, 1, 0), 1);
        due("suppressed", x.told(9), 1);
        due("though the entry has gone", x.finds(2, 1, 0, 1), 1);
        due("the one that is there", x.finds(2, 1, 0, 0), 10);
        // Host 2 knows data 5; the sole record that it hears first ends their entry within the question.
        LinkNames y = after(3, "z2;c0 1 0 9 60;t3;w2;s1 1 0 5 60;");
        due("data 9 are announced, 5 were known", y.asks(2, 1, 0), 1);
        due("suppressed", y.told(9), 1);
        due("though their entry ends soon", y.entry(2, 0, 4), 1);
        due("so they are not known in the next question", y.asks(2, 1, 0), 1);
    }

    /** Each data from 0 to 255 can be known, and makes no other data known. */
    private static void knownForAllData() {
        sentence("its cache has an entry with this name, kind and data");
        for (int data = 0; data <= 255; data++) {
            for (int apart : new int[] {1, 2, 7, 8, 16, 31, 32, 63, 64, 65, 127, 128, 192, 254, 255}) {
                int other = (data + apart) % 256;
                LinkNames x = Checks.withHosts(3);
                x.sleeps(2, NONE);
                x.shares(0, 1, 0, other, 60);
                x.wakes(2);
                x.shares(1, 1, 0, data, 60);
                due("known " + data + ", not " + other, x.asks(2, 1, 0), 1);
                due("suppressed " + data, x.told(9), 1);
                due("announced " + other, x.finds(2, 1, 0, 0), other);
            }
        }
    }

    private static void considered() {
        sentence("All hosts but the asking one, in ascending order, and of each all owned records with this name and"
                + " kind, in ascending order, are considered; those of a sleeping host without a proxy that is awake"
                + " are skipped.");
        LinkNames x = Checks.withHosts(2);
        due("no record at all", x.asks(0, 15, 3), 0);
        x.shares(0, 15, 3, 1, 60);
        due("not the asking one's", x.asks(0, 15, 3), 0);
        due("nor suppressed", x.told(9), 0);
        LinkNames y = after(4, "z3;s2 1 0 5 60;s0 1 0 6 60;s1 1 0 7 60;w3;");
        due("three", y.asks(3, 1, 0), 3);
        due("host 0 first", y.entry(3, 0, 2), 6);
        due("then host 1", y.entry(3, 1, 2), 7);
        due("then host 2", y.entry(3, 2, 2), 5);
        LinkNames z = after(2, "c0 1 0 5 60;t2;");
        due("stage 2 is not owned", z.asks(1, 1, 0), 0);
        LinkNames w = after(3, "z2;s0 1 1 5 60;s0 2 0 5 60;w2;");
        due("another kind, another name", w.asks(2, 1, 0), 0);
        LinkNames v = after(3, "z2;s0 1 0 5 60;w2;z0;");
        due("a sleeping host without a proxy", v.asks(2, 1, 0), 0);
        due("is not suppressed either", v.told(9), 0);
        LinkNames u = after(3, "z2;s0 1 0 5 60;w2;z0 1;z1;");
        due("a sleeping host whose proxy sleeps", u.asks(2, 1, 0), 0);
        due("is not suppressed either", u.told(9), 0);
        u.wakes(1);
        due("whose proxy is awake", u.asks(2, 1, 0), 1);
        twoRecordsOfOneName();
    }

    /** Host 1 has two records of one name, since it has lost a name; both are considered, the first one first. */
    private static void twoRecordsOfOneName() {
        LinkNames x = after(3, "z2;c0 3 0 5 60;c1 4 0 70 60;t3;c1 3 0 60 60;t4;w2;");
        due("two", x.asks(2, 4, 0), 2);
        due("record 0 first", x.entry(2, 0, 2), 70);
        due("then record 1", x.entry(2, 1, 2), 60);
    }

    private static void suppressed() {
        sentence("If the data of the record are known, or were announced in this question already, the answer is"
                + " suppressed, and the number of suppressed answers increases by 1.");
        LinkNames x = after(6, "z5;s0 1 0 7 60;s1 1 0 7 60;s2 1 0 8 60;s3 1 0 7 60;s4 1 0 8 60;w5;");
        int messages = x.told(6);
        due("7 and 8 once each", x.asks(5, 1, 0), 2);
        due("the other three are suppressed", x.told(9), 3);
        due("no message for them", x.told(6), messages + 2);
        due("all five are known now", x.asks(5, 1, 0), 0);
        due("suppressed", x.told(9), 8);
        due("no message", x.told(6), messages + 2);
        // The asker does not hear what it has itself, but it has been announced.
        LinkNames y = after(3, "c2 1 0 7 60;s0 1 0 7 60;s1 1 0 7 60;");
        due("announced in this question already, though not heard", y.asks(2, 1, 0), 1);
        due("suppressed", y.told(9), 1);
        due("and announced again in the next", y.asks(2, 1, 0), 1);
        due("suppressed", y.told(9), 2);
    }

    private static void announcedByWhom() {
        sentence("Otherwise it is announced, by its host if that is awake, or else by its proxy (then all hosts but"
                + " the proxy hear it; the proxy may be the asking host).");
        LinkNames x = after(4, "z1;z2;z3;s0 1 0 7 60;w1;w2;w3;");
        due("its host is awake", x.asks(3, 1, 0), 1);
        due("all but the host hear it", x.all(0), 3);
        due("not the host", x.of(0, 3), 0);
        LinkNames w = after(3, "z0;z2;s1 1 0 7 60;w0;w2;");
        due("its host is not the first one", w.asks(2, 1, 0), 1);
        due("the first one hears it", w.of(0, 3), 1);
        due("its host does not", w.of(1, 3), 0);
        LinkNames y = after(4, "z1;z2;z3;s0 1 0 7 60;w1;w2;w3;z0 2;");
        due("its proxy is another", y.asks(3, 1, 0), 1);
        due("the asking one hears it", y.of(3, 3), 1);
        due("a third one hears it", y.of(1, 3), 1);
        due("the proxy does not", y.of(2, 3), 0);
        due("the sleeper neither", y.of(0, 3), 0);
        LinkNames z = after(4, "z1;z2;z3;s0 1 0 7 60;w1;w2;w3;z0 3;");
        due("its proxy is the asking one", z.asks(3, 1, 0), 1);
        due("a message", z.told(6), 2);
        due("the asking one does not hear it", z.of(3, 3), 0);
        due("the others do", z.all(0), 2);
        due("so it is not known", z.asks(3, 1, 0), 1);
    }

    private static void removed() {
        sentence("A goodbye of a record: it is removed (the numbers of those behind it decrease by 1).");
        LinkNames x = after(1, "c0 1 0 5 60;c0 2 0 5 60;c0 3 0 5 60;c0 4 0 5 60;c0 5 0 5 60;");
        due("the last of five", x.leaves(0, 4), 4);
        due("name", x.record(0, 3, 0), 4);
        due("no fifth", x.record(0, 4, 0), BAD);
        due("the first", x.leaves(0, 0), 3);
        due("name", x.record(0, 0, 0), 2);
        due("name", x.record(0, 1, 0), 3);
        due("name", x.record(0, 2, 0), 4);
        due("no fourth", x.record(0, 3, 0), BAD);
        due("one within", x.leaves(0, 1), 2);
        due("name", x.record(0, 0, 0), 2);
        due("name", x.record(0, 1, 0), 4);
        due("the last but one", x.leaves(0, 0), 1);
        due("the only one", x.leaves(0, 0), 0);
        due("none", x.record(0, 0, 0), BAD);
    }

    private static void goodbye() {
        sentence("If it was owned, the number of messages increases by 1, and in the caches of all hosts that are"
                + " awake, an entry with its name, kind and data whose end is greater than the time plus 1 gets the"
                + " time plus 1 as its end.");
        for (int life = 3; life <= 5; life++) {
            LinkNames x = Checks.withHosts(2);
            x.shares(0, 1, 0, 5, life);
            x.ticks(2);
            due("an end that is the time plus " + (life - 2), x.entry(1, 0, 4), life - 2);
            x.leaves(0, 0);
            due("is the time plus 1 then", x.entry(1, 0, 4), 1);
            due("the life stays", x.entry(1, 0, 3), life);
            due("a message", x.told(6), 2);
            x.ticks(1);
            due("it has ended", x.of(1, 3), 0);
        }
        for (int stage = 0; stage <= 2; stage++) {
            LinkNames y = after(3, "s0 1 0 5 60;c1 1 0 5 60;");
            for (int i = 0; i < stage; i++) {
                y.ticks(1);
            }
            y.leaves(1, 0);
            due("stage " + stage + ", not owned: no message", y.told(6), 1);
            due("no entry ends", y.entry(2, 0, 4), 60 - stage);
        }
        LinkNames z = after(4, "s0 1 0 5 60;s1 1 0 6 60;s1 1 1 5 60;s1 2 0 5 60;z3;");
        z.leaves(0, 0);
        entry("its entry", z, 2, 0, 1, 0, 5, 60, 1);
        entry("other data", z, 2, 1, 1, 0, 6, 60, 60);
        entry("another kind", z, 2, 2, 1, 1, 5, 60, 60);
        entry("another name", z, 2, 3, 2, 0, 5, 60, 60);
        due("a sleeper's entry", z.entry(3, 0, 4), 60);
        // Host 1 keeps the entry that it heard before it had the record itself.
        LinkNames w = after(2, "s0 1 0 5 60;s1 1 0 5 60;g1 0;");
        due("also its own entry", w.entry(1, 0, 4), 1);
        LinkNames u = after(3, "s0 1 0 5 60;s2 1 0 5 60;c1 1 0 5 60;g0 0;");
        due("also that of a host which has the same record", u.entry(1, 0, 4), 1);
        LinkNames v = after(6, "s3 1 0 5 60;g3 0;");
        for (int h = 0; h < 6; h++) {
            due("of six hosts, host " + h, v.finds(h, 1, 0, 2), h == 3 ? NONE : 1);
        }
    }

    private static void fallsAsleep() {
        sentence("A host that falls asleep keeps its cache, and remains the proxy of those whose proxy it is (but is"
                + " not awake).");
        LinkNames x = after(4, "s3 1 0 5 60;c0 2 0 5 60;t3;z0 1;");
        due("the set of one", x.of(1, 5), 1);
        due("entries", x.of(1, 3), 2);
        due("falls asleep", x.sleeps(1, NONE), 0);
        due("keeps its cache", x.of(1, 3), 2);
        entry("as it was", x, 1, 0, 1, 0, 5, 60, 57);
        due("remains the proxy", x.of(0, 2), 1);
        due("of this set", x.of(1, 5), 1);
        due("is not awake, so it defends nothing", x.record(0, 0, 7), 0);
        refused("and cannot become one's proxy", x, NO, () -> x.sleeps(2, 1));
        due("wakes", x.wakes(1), 0);
        due("is the proxy still", x.of(0, 2), 1);
        due("and defends again", x.record(0, 0, 7), 1);
    }

    private static void wakesUp() {
        sentence("When a host wakes up, it is awake and has no proxy; then, for each of its records that is owned,"
                + " in ascending order: if it is sole and another host has a defended record of one name with it,"
                + " with other data, its stage and wait become 0; otherwise the host announces it.");
        LinkNames x = after(2, "z0 1;w0;");
        due("without records", x.told(6), 0);
        due("awake", x.of(0, 1), 1);
        due("no proxy", x.of(0, 2), NONE);
        due("nobody's proxy", x.of(1, 5), 0);
        LinkNames y = after(3, "c0 1 0 5 60;s0 2 0 5 60;c0 3 0 5 60;t3;z0;c1 1 0 9 60;c1 2 0 9 60;c1 3 0 5 60;t3;");
        due("the shared one and that with the same data", y.wakes(0), 2);
        record("sole, a rival", y, 0, 0, 1, 0, 5, 60, 0, 0, 1, 0);
        record("shared", y, 0, 1, 2, 0, 5, 60, 3, 0, 0, 0);
        record("the same data", y, 0, 2, 3, 0, 5, 60, 3, 0, 1, 1);
        due("no move", y.told(8), 0);
        LinkNames z = after(3, "c0 1 0 5 60;t3;z0;c1 1 0 9 60;t2;");
        due("a rival that is not owned", z.wakes(0), 1);
        LinkNames w = after(3, "c0 1 0 5 60;t3;z0;c1 1 0 9 60;t3;z1;");
        due("a rival that sleeps without a proxy", w.wakes(0), 1);
        LinkNames v = after(3, "c0 1 0 5 60;t3;z0;c1 1 0 9 60;t3;z1 2;");
        due("a rival that sleeps with a proxy that is awake", v.wakes(0), 0);
        LinkNames u = after(3, "c0 1 0 5 60;t3;z0;s1 1 0 9 60;");
        due("a rival that is shared", u.wakes(0), 1);
        LinkNames s = after(2, "c0 1 0 5 60;t2;z0;w0;");
        due("one that is not owned is not announced", s.told(6), 0);
        due("and keeps its stage", s.record(0, 0, 4), 2);
        LinkNames r = after(2, "c0 1 0 5 60;c1 1 0 9 60;t1;z0;w0;");
        due("and its wait", r.record(0, 0, 5), 1);
        LinkNames q = after(3, "z1;s0 1 0 5 60;s0 2 0 5 60;z0;w1;w0;");
        due("record 0 first", q.entry(1, 0, 0), 1);
        due("then record 1", q.entry(1, 1, 0), 2);
    }
}

/** Name service on one link without a server, in the manner of multicast DNS; the document is ../shared/DOC.md. */
public final class LinkNames {
    public static final int NONE = -1, BAD = -2, NO = -3, FULL = -4;

    private static final int MOST_HOSTS = 6;
    private static final int MOST_RECORDS = 5;
    private static final int MOST_ENTRIES = 6;
    private static final int MOST_STATES = 5;
    private static final int MOST_TICKS = 60;
    private static final int MOST_BYTES = 120;
    private static final int MOST_NUMBERS = 5;
    private static final int MOST_DIGITS = 3;
    /** The shortest order, "h;", has two bytes. */
    private static final int MOST_ORDERS = MOST_BYTES / 2;

    private static final int NAMES = 16;
    private static final int KINDS = 4;
    private static final int DATA = 256;
    private static final int LEAST_LIFE = 2;
    private static final int MOST_LIFE = 60;
    private static final int OWNED = 3;

    private static final int TEXT_FAULT = -10;
    private static final int ORDER_FAILED = -1000;
    private static final int NO_SUCH_REASON = -10;

    private final Link link;
    private final History history;
    private final Text text;
    private int bads;
    private int noes;
    private int fulls;
    private int failedError;
    private int failedOrder;

    public LinkNames() {
        link = new Link();
        history = new History();
        text = new Text();
        failedOrder = NONE;
    }

    public int host() {
        history.draft(link);
        return stepped(link.addHost());
    }

    public int claims(int h, int name, int kind, int data, int life) {
        history.draft(link);
        return stepped(link.claim(h, name, kind, data, life));
    }

    public int shares(int h, int name, int kind, int data, int life) {
        history.draft(link);
        return stepped(link.share(h, name, kind, data, life));
    }

    public int leaves(int h, int r) {
        history.draft(link);
        return stepped(link.sayGoodbye(h, r));
    }

    public int record(int h, int r, int what) {
        return counted(link.recordProperty(h, r, what));
    }

    public int of(int h, int what) {
        return counted(link.hostProperty(h, what));
    }

    public int ticks(int n) {
        history.draft(link);
        return stepped(link.passTicks(n));
    }

    public int rate() {
        return bitsOf(link.rate);
    }

    public int asks(int h, int name, int kind) {
        history.draft(link);
        return stepped(link.ask(h, name, kind));
    }

    public int entry(int h, int i, int what) {
        return counted(link.entryProperty(h, i, what));
    }

    public int finds(int h, int name, int kind, int what) {
        return counted(link.lookUp(h, name, kind, what));
    }

    public int owner(int name, int kind, int what) {
        return counted(link.defender(name, kind, what));
    }

    public int all(int what) {
        return counted(link.total(what));
    }

    public int sleeps(int h, int p) {
        history.draft(link);
        return stepped(link.fallAsleep(h, p));
    }

    public int wakes(int h) {
        history.draft(link);
        return stepped(link.wakeUp(h));
    }

    public int type(int c) {
        return counted(text.append(c));
    }

    public int clear() {
        int had = text.length;
        text.length = 0;
        return had;
    }

    public int reads() {
        int fault = text.findFault();
        if (fault != NONE) {
            return TEXT_FAULT - fault;
        }
        history.draft(link);
        for (int order = 0; order < text.orders; order++) {
            int answer = perform(order);
            if (isError(answer)) {
                history.restoreDraft(link);
                failedError = answer;
                failedOrder = order;
                return ORDER_FAILED - order;
            }
        }
        history.keepDraft();
        return text.orders;
    }

    public int why(int what) {
        switch (what) {
            case 0:
                return failedError;
            case 1:
                return failedOrder;
            default:
                bads++;
                return NO_SUCH_REASON;
        }
    }

    public int back() {
        return counted(history.goBack(link));
    }

    public int told(int what) {
        switch (what) {
            case 0:
                return bads;
            case 1:
                return noes;
            case 2:
                return fulls;
            case 3:
                return text.length;
            case 4:
                return link.hostCount;
            case 5:
                return link.time;
            case 6:
                return link.messages;
            case 7:
                return link.probes;
            case 8:
                return link.moves;
            case 9:
                return link.suppressed;
            case 10:
                return history.kept;
            default:
                return counted(BAD);
        }
    }

    public long digest() {
        long hash = 2309;
        for (int what = 0; what <= 10; what++) {
            hash = 31 * hash + told(what);
        }
        hash = 31 * hash + why(0);
        hash = 31 * hash + why(1);
        for (int h = 0; h < link.hostCount; h++) {
            hash = digestOfHost(hash, h);
        }
        hash = 31 * hash + rate();
        for (int what = 0; what <= 3; what++) {
            hash = 31 * hash + all(what);
        }
        return hash;
    }

    private long digestOfHost(long before, int h) {
        long hash = before;
        for (int what = 0; what <= 5; what++) {
            hash = 31 * hash + of(h, what);
        }
        int records = of(h, 0);
        for (int r = 0; r < records; r++) {
            for (int what = 0; what <= 7; what++) {
                hash = 31 * hash + record(h, r, what);
            }
        }
        int entries = of(h, 3);
        for (int i = 0; i < entries; i++) {
            for (int what = 0; what <= 4; what++) {
                hash = 31 * hash + entry(h, i, what);
            }
        }
        return hash;
    }

    private static boolean isError(int answer) {
        return answer == BAD || answer == NO || answer == FULL;
    }

    private int counted(int answer) {
        if (answer == BAD) {
            bads++;
        } else if (answer == NO) {
            noes++;
        } else if (answer == FULL) {
            fulls++;
        }
        return answer;
    }

    /** Ends a step: the draft that was made before it becomes a saved state, unless the step was refused. */
    private int stepped(int answer) {
        if (!isError(answer)) {
            history.keepDraft();
        }
        return counted(answer);
    }

    private int perform(int order) {
        int first = text.number(order, 0);
        int second = text.number(order, 1);
        int third = text.number(order, 2);
        int fourth = text.number(order, 3);
        int fifth = text.number(order, 4);
        switch (text.letter(order)) {
            case 'h':
                return link.addHost();
            case 't':
                return link.passTicks(first);
            case 'w':
                return link.wakeUp(first);
            case 'z':
                return link.fallAsleep(first, second);
            case 'c':
                return link.claim(first, second, third, fourth, fifth);
            case 's':
                return link.share(first, second, third, fourth, fifth);
            case 'a':
                return link.ask(first, second, third);
            case 'g':
                return link.sayGoodbye(first, second);
            default:
                return BAD;
        }
    }

    /**
     * The bits of a float that is not negative, as Float.floatToIntBits gives them: LANGUAGE.md leaves that function
     * out. A double holds every float exactly, also after the steps by 2, so nothing is rounded.
     */
    private static int bitsOf(float value) {
        double scaled = (double) value;
        int exponent = 127;
        while (scaled >= 2.0 && exponent < 254) {
            scaled = scaled * 0.5;
            exponent++;
        }
        while (scaled < 1.0 && exponent > 1) {
            scaled = scaled * 2.0;
            exponent--;
        }
        // A leading 1 adds the last unit of the exponent by itself; a subnormal value has neither.
        return ((exponent - 1) << 23) + (int) (scaled * 8388608.0);
    }

    private static boolean within(int value, int least, int most) {
        return value >= least && value <= most;
    }

    private static int oneIf(boolean condition) {
        return condition ? 1 : 0;
    }

    /** A record of a host. */
    private static final class NameRecord {
        int name;
        int kind;
        int data;
        int life;
        int stage;
        int wait;
        boolean sole;

        void become(NameRecord other) {
            name = other.name;
            kind = other.kind;
            data = other.data;
            life = other.life;
            stage = other.stage;
            wait = other.wait;
            sole = other.sole;
        }

        boolean isNamed(int aName, int aKind) {
            return name == aName && kind == aKind;
        }

        boolean isOwned() {
            return stage == OWNED;
        }

        void restart(int firstWait) {
            stage = 0;
            wait = firstWait;
        }
    }

    /** An entry of a cache. */
    private static final class Entry {
        int name;
        int kind;
        int data;
        int life;
        int end;

        void become(Entry other) {
            name = other.name;
            kind = other.kind;
            data = other.data;
            life = other.life;
            end = other.end;
        }

        boolean isNamed(int aName, int aKind) {
            return name == aName && kind == aKind;
        }
    }

    /** The entries that a host keeps, the oldest first; those behind the first 'size' wait to be used again. */
    private static final class Cache {
        final Entry[] entries;
        int size;

        Cache() {
            entries = new Entry[MOST_ENTRIES];
            for (int i = 0; i < MOST_ENTRIES; i++) {
                entries[i] = new Entry();
            }
        }

        void become(Cache other) {
            size = other.size;
            for (int i = 0; i < size; i++) {
                entries[i].become(other.entries[i]);
            }
        }

        int indexOf(int name, int kind, int data) {
            for (int i = 0; i < size; i++) {
                Entry entry = entries[i];
                if (entry.name == name && entry.kind == kind && entry.data == data) {
                    return i;
                }
            }
            return NONE;
        }

        void removeAt(int at) {
            if (at < 0 || at >= size) {
                return;
            }
            Entry removed = entries[at];
            for (int i = at; i < size - 1; i++) {
                entries[i] = entries[i + 1];
            }
            size--;
            entries[size] = removed;
        }

        void removeEnded(int time) {
            for (int i = size - 1; i >= 0; i--) {
                if (entries[i].end <= time) {
                    removeAt(i);
                }
            }
        }

        void learn(NameRecord record, int time) {
            removeAt(indexOf(record.name, record.kind, record.data));
            if (size >= MOST_ENTRIES) {
                removeAt(0);
            }
            Entry newest = entries[size];
            size++;
            newest.name = record.name;
            newest.kind = record.kind;
            newest.data = record.data;
            newest.life = record.life;
            newest.end = time + record.life;
            if (record.sole) {
                endRivals(record, time + 1);
            }
        }

        /** A sole record leaves no room for other data under its name: what is kept of them ends soon. */
        void endRivals(NameRecord record, int latest) {
            for (int i = 0; i < size; i++) {
                Entry entry = entries[i];
                if (entry.name == record.name && entry.kind == record.kind && entry.data != record.data
                        && entry.end > latest) {
                    entry.end = latest;
                }
            }
        }

        void endOf(NameRecord record, int latest) {
            int at = indexOf(record.name, record.kind, record.data);
            if (at != NONE && entries[at].end > latest) {
                entries[at].end = latest;
            }
        }

        /** Adds to a set the data under a name that have at least half of their life left. */
        void noteKnown(int name, int kind, int time, DataSet known) {
            for (int i = 0; i < size; i++) {
                Entry entry = entries[i];
                if (entry.isNamed(name, kind) && 2 * (entry.end - time) >= entry.life) {
                    known.add(entry.data);
                }
            }
        }

        int newestData(int name, int kind) {
            for (int i = size - 1; i >= 0; i--) {
                if (entries[i].isNamed(name, kind)) {
                    return entries[i].data;
                }
            }
            return NONE;
        }

        int countOf(int name, int kind) {
            int found = 0;
            for (int i = 0; i < size; i++) {
                found += oneIf(entries[i].isNamed(name, kind));
            }
            return found;
        }

        /** The greatest end minus time; that of an entry is never below 1, so NONE is less than any. */
        int longestLeft(int name, int kind, int time) {
            int longest = NONE;
            for (int i = 0; i < size; i++) {
                if (entries[i].isNamed(name, kind)) {
                    longest = Math.max(longest, entries[i].end - time);
                }
            }
            return longest;
        }
    }

    /** A host; its records behind the first 'count' wait to be used again. */
    private static final class Host {
        final NameRecord[] records;
        final Cache cache;
        int count;
        boolean awake;
        int proxy;

        Host() {
            records = new NameRecord[MOST_RECORDS];
            for (int r = 0; r < MOST_RECORDS; r++) {
                records[r] = new NameRecord();
            }
            cache = new Cache();
        }

        /** Makes this a host that has just come: it may have been in use before back() took it away. */
        void begin() {
            count = 0;
            cache.size = 0;
            awake = true;
            proxy = NONE;
        }

        void become(Host other) {
            count = other.count;
            for (int r = 0; r < count; r++) {
                records[r].become(other.records[r]);
            }
            cache.become(other.cache);
            awake = other.awake;
            proxy = other.proxy;
        }

        /** Adds a record; the caller has seen that there is room. */
        NameRecord add(int name, int kind, int data, int life) {
            NameRecord added = records[count];
            count++;
            added.name = name;
            added.kind = kind;
            added.data = data;
            added.life = life;
            added.wait = 0;
            return added;
        }

        /** Takes a record out and returns it; it keeps its values until another one is added. */
        NameRecord takeOut(int at) {
            NameRecord taken = records[at];
            for (int r = at; r < count - 1; r++) {
                records[r] = records[r + 1];
            }
            count--;
            records[count] = taken;
            return taken;
        }

        boolean hasNamed(int name, int kind) {
            for (int r = 0; r < count; r++) {
                if (records[r].isNamed(name, kind)) {
                    return true;
                }
            }
            return false;
        }

        boolean has(int name, int kind, int data) {
            for (int r = 0; r < count; r++) {
                if (records[r].isNamed(name, kind) && records[r].data == data) {
                    return true;
                }
            }
            return false;
        }

        boolean owns(int name, int kind, int data) {
            for (int r = 0; r < count; r++) {
                NameRecord record = records[r];
                if (record.isOwned() && record.isNamed(name, kind) && record.data == data) {
                    return true;
                }
            }
            return false;
        }

        int ownedCount() {
            int owned = 0;
            for (int r = 0; r < count; r++) {
                owned += oneIf(records[r].isOwned());
            }
            return owned;
        }

        /** The first owned sole record with a name and a kind, or NONE. */
        int firstSole(int name, int kind) {
            for (int r = 0; r < count; r++) {
                NameRecord record = records[r];
                if (record.sole && record.isOwned() && record.isNamed(name, kind)) {
                    return r;
                }
            }
            return NONE;
        }

        /** Whether this host owns a sole record of one name with that of another host, with other data. */
        boolean ownsRivalOf(NameRecord theirs) {
            for (int r = 0; r < count; r++) {
                NameRecord mine = records[r];
                if (mine.sole && mine.isOwned() && mine.isNamed(theirs.name, theirs.kind)
                        && mine.data != theirs.data) {
                    return true;
                }
            }
            return false;
        }

        /** Whether this host probes for the name of another host's record too, with greater data. */
        boolean outbids(NameRecord theirs) {
            for (int r = 0; r < count; r++) {
                NameRecord mine = records[r];
                if (!mine.isOwned() && mine.isNamed(theirs.name, theirs.kind) && mine.data > theirs.data) {
                    return true;
                }
            }
            return false;
        }
    }

    /** A set of data of records, a bit for each of the 256. */
    private static final class DataSet {
        final long[] words;

        DataSet() {
            words = new long[DATA / 64];
        }

        void empty() {
            for (int i = 0; i < words.length; i++) {
                words[i] = 0;
            }
        }

        void add(int data) {
            if (within(data, 0, DATA - 1)) {
                words[data / 64] |= 1L << (data % 64);
            }
        }

        boolean has(int data) {
            return within(data, 0, DATA - 1) && (words[data / 64] >>> (data % 64) & 1L) == 1L;
        }
    }

    /** The state of the link: all that a step saves. A method that returns an error has changed nothing. */
    private static final class Link {
        final Host[] hosts;
        /** Used within one question only, and no part of the state. */
        final DataSet quiet;
        int hostCount;
        int time;
        int messages;
        int messagesAtTick;
        int probes;
        int moves;
        int suppressed;
        float rate;

        Link() {
            hosts = new Host[MOST_HOSTS];
            for (int h = 0; h < MOST_HOSTS; h++) {
                hosts[h] = new Host();
            }
            quiet = new DataSet();
        }

        void become(Link other) {
            hostCount = other.hostCount;
            for (int h = 0; h < hostCount; h++) {
                hosts[h].become(other.hosts[h]);
            }
            time = other.time;
            messages = other.messages;
            messagesAtTick = other.messagesAtTick;
            probes = other.probes;
            moves = other.moves;
            suppressed = other.suppressed;
            rate = other.rate;
        }

        boolean isHost(int h) {
            return h >= 0 && h < hostCount;
        }

        boolean isRecord(int h, int r) {
            return isHost(h) && r >= 0 && r < hosts[h].count;
        }

        static boolean isName(int name, int kind) {
            return within(name, 0, NAMES - 1) && within(kind, 0, KINDS - 1);
        }

        int addHost() {
            if (hostCount >= MOST_HOSTS) {
                return FULL;
            }
            hosts[hostCount].begin();
            hostCount++;
            return hostCount - 1;
        }

        int claim(int h, int name, int kind, int data, int life) {
            int error = errorOfAdding(h, name, kind, data, life);
            if (error != 0) {
                return error;
            }
            NameRecord added = hosts[h].add(name, kind, data, life);
            added.sole = true;
            added.stage = 0;
            return hosts[h].count - 1;
        }

        int share(int h, int name, int kind, int data, int life) {
            int error = errorOfAdding(h, name, kind, data, life);
            if (error != 0) {
                return error;
            }
            NameRecord added = hosts[h].add(name, kind, data, life);
            added.sole = false;
            added.stage = OWNED;
            announce(h, added);
            return hosts[h].count - 1;
        }

        /** Returns why a record cannot be added, or 0. */
        int errorOfAdding(int h, int name, int kind, int data, int life) {
            if (!isHost(h) || !isName(name, kind) || !within(data, 0, DATA - 1)
                    || !within(life, LEAST_LIFE, MOST_LIFE)) {
                return BAD;
            }
            if (!hosts[h].awake || hosts[h].hasNamed(name, kind)) {
                return NO;
            }
            return hosts[h].count >= MOST_RECORDS ? FULL : 0;
        }

        int sayGoodbye(int h, int r) {
            if (!isRecord(h, r)) {
                return BAD;
            }
            if (!hosts[h].awake) {
                return NO;
            }
            NameRecord gone = hosts[h].takeOut(r);
            if (gone.isOwned()) {
                messages++;
                for (int other = 0; other < hostCount; other++) {
                    if (hosts[other].awake) {
                        hosts[other].cache.endOf(gone, time + 1);
                    }
                }
            }
            return hosts[h].count;
        }

        void announce(int speaker, NameRecord record) {
            for (int h = 0; h < hostCount; h++) {
                Host host = hosts[h];
                if (h != speaker && host.awake && !host.has(record.name, record.kind, record.data)) {
                    host.cache.learn(record, time);
                }
            }
            messages++;
        }

        /** Who speaks for a host's records: itself, or its proxy while it sleeps; NONE if neither is awake. */
        int speakerFor(int h) {
            Host host = hosts[h];
            if (host.awake) {
                return h;
            }
            return isHost(host.proxy) && hosts[host.proxy].awake ? host.proxy : NONE;
        }

        boolean isDefended(int h, NameRecord record) {
            return record.sole && record.isOwned() && speakerFor(h) != NONE;
        }

        int passTicks(int n) {
            if (!within(n, 1, MOST_TICKS)) {
                return BAD;
            }
            int before = messages;
            for (int i = 0; i < n; i++) {
                beginTick();
                for (int h = 0; h < hostCount; h++) {
                    for (int r = 0; r < hosts[h].count; r++) {
                        advance(h, hosts[h].records[r]);
                    }
                }
                measureRate();
            }
            return messages - before;
        }

        void beginTick() {
            time++;
            for (int h = 0; h < hostCount; h++) {
                hosts[h].cache.removeEnded(time);
            }
        }

        void measureRate() {
            float sinceLast = (float) (messages - messagesAtTick);
            rate = rate * 0.75f + sinceLast * 0.25f;
            messagesAtTick = messages;
        }

        /** Brings a record nearer to being owned, if it is not yet and its host is awake. */
        void advance(int h, NameRecord record) {
            if (!hosts[h].awake || record.isOwned()) {
                return;
            }
            if (record.wait > 0) {
                record.wait--;
                return;
            }
            probes++;
            if (isTaken(h, record)) {
                record.name = (record.name + 1) % NAMES;
                record.restart(0);
                moves++;
            } else if (isOutbid(h, record)) {
                record.restart(1);
            } else {
                record.stage++;
                if (record.isOwned()) {
                    announce(h, record);
                }
            }
        }

        /** Whether another host has a defended record of one name with this one, with other data. */
        boolean isTaken(int h, NameRecord record) {
            for (int other = 0; other < hostCount; other++) {
                if (other != h && speakerFor(other) != NONE && hosts[other].ownsRivalOf(record)) {
                    return true;
                }
            }
            return false;
        }

        /** Whether another host that is awake probes for the same name with greater data. */
        boolean isOutbid(int h, NameRecord record) {
            for (int other = 0; other < hostCount; other++) {
                if (other != h && hosts[other].awake && hosts[other].outbids(record)) {
                    return true;
                }
            }
            return false;
        }

        int ask(int h, int name, int kind) {
            if (!isHost(h) || !isName(name, kind)) {
                return BAD;
            }
            if (!hosts[h].awake) {
                return NO;
            }
            // The asker's cache may change while it hears the answers, so what it knows is noted first.
            quiet.empty();
            hosts[h].cache.noteKnown(name, kind, time, quiet);
            int announced = 0;
            for (int other = 0; other < hostCount; other++) {
                if (other != h) {
                    announced += answerFor(other, name, kind);
                }
            }
            return announced;
        }

        /** Gives the answers of one host to a question, and returns how many were announced. */
        int answerFor(int h, int name, int kind) {
            int speaker = speakerFor(h);
            if (speaker == NONE) {
                return 0;
            }
            int announced = 0;
            Host host = hosts[h];
            for (int r = 0; r < host.count; r++) {
                NameRecord record = host.records[r];
                if (!record.isOwned() || !record.isNamed(name, kind)) {
                    continue;
                }
                if (quiet.has(record.data)) {
                    suppressed++;
                } else {
                    quiet.add(record.data);
                    announce(speaker, record);
                    announced++;
                }
            }
            return announced;
        }

        int fallAsleep(int h, int p) {
            if (!isHost(h) || p == h || p != NONE && !isHost(p)) {
                return BAD;
            }
            if (!hosts[h].awake || isHost(p) && !hosts[p].awake) {
                return NO;
            }
            hosts[h].awake = false;
            hosts[h].proxy = p;
            return hosts[h].ownedCount();
        }

        int wakeUp(int h) {
            if (!isHost(h)) {
                return BAD;
            }
            Host host = hosts[h];
            if (host.awake) {
                return NO;
            }
            host.awake = true;
            host.proxy = NONE;
            int announced = 0;
            for (int r = 0; r < host.count; r++) {
                NameRecord record = host.records[r];
                if (!record.isOwned()) {
                    continue;
                }
                if (record.sole && isTaken(h, record)) {
                    record.restart(0);
                } else {
                    announce(h, record);
                    announced++;
                }
            }
            return announced;
        }

        int recordProperty(int h, int r, int what) {
            if (!isRecord(h, r)) {
                return BAD;
            }
            NameRecord record = hosts[h].records[r];
            switch (what) {
                case 0:
                    return record.name;
                case 1:
                    return record.kind;
                case 2:
                    return record.data;
                case 3:
                    return record.life;
                case 4:
                    return record.stage;
                case 5:
                    return record.wait;
                case 6:
                    return oneIf(record.sole);
                case 7:
                    return oneIf(isDefended(h, record));
                default:
                    return BAD;
            }
        }

        int hostProperty(int h, int what) {
            if (!isHost(h)) {
                return BAD;
            }
            Host host = hosts[h];
            switch (what) {
                case 0:
                    return host.count;
                case 1:
                    return oneIf(host.awake);
                case 2:
                    return host.proxy;
                case 3:
                    return host.cache.size;
                case 4:
                    return host.ownedCount();
                case 5:
                    return hostsWithProxy(h);
                default:
                    return BAD;
            }
        }

        int hostsWithProxy(int p) {
            int set = 0;
            for (int h = 0; h < hostCount; h++) {
                if (hosts[h].proxy == p) {
                    set |= 1 << h;
                }
            }
            return set;
        }

        int entryProperty(int h, int i, int what) {
            if (!isHost(h) || i < 0 || !within(what, 0, 4)) {
                return BAD;
            }
            Cache cache = hosts[h].cache;
            if (i >= cache.size) {
                return NONE;
            }
            Entry entry = cache.entries[i];
            switch (what) {
                case 0:
                    return entry.name;
                case 1:
                    return entry.kind;
                case 2:
                    return entry.data;
                case 3:
                    return entry.life;
                default:
                    return entry.end - time;
            }
        }

        int lookUp(int h, int name, int kind, int what) {
            if (!isHost(h) || !isName(name, kind)) {
                return BAD;
            }
            Cache cache = hosts[h].cache;
            switch (what) {
                case 0:
                    return cache.newestData(name, kind);
                case 1:
                    return cache.countOf(name, kind);
                case 2:
                    return cache.longestLeft(name, kind, time);
                default:
                    return BAD;
            }
        }

        int defender(int name, int kind, int what) {
            if (!isName(name, kind) || !within(what, 0, 2)) {
                return BAD;
            }
            int first = NONE;
            int defenders = 0;
            for (int h = 0; h < hostCount; h++) {
                if (speakerFor(h) != NONE && hosts[h].firstSole(name, kind) != NONE) {
                    first = first == NONE ? h : first;
                    defenders++;
                }
            }
            if (what == 2) {
                return defenders;
            }
            if (!isHost(first) || what == 0) {
                return first;
            }
            return recordProperty(first, hosts[first].firstSole(name, kind), 2);
        }

        int total(int what) {
            if (!within(what, 0, 3)) {
                return BAD;
            }
            int sum = 0;
            for (int h = 0; h < hostCount; h++) {
                Host host = hosts[h];
                switch (what) {
                    case 0:
                        sum += host.cache.size;
                        break;
                    case 1:
                        sum += staleEntries(host.cache);
                        break;
                    case 2:
                        sum += host.count - host.ownedCount();
                        break;
                    default:
                        sum += oneIf(host.awake);
                        break;
                }
            }
            return sum;
        }

        /** How many entries tell of what no host owns. */
        int staleEntries(Cache cache) {
            int stale = 0;
            for (int i = 0; i < cache.size; i++) {
                stale += oneIf(!isOwnedByAny(cache.entries[i]));
            }
            return stale;
        }

        boolean isOwnedByAny(Entry entry) {
            for (int h = 0; h < hostCount; h++) {
                if (hosts[h].owns(entry.name, entry.kind, entry.data)) {
                    return true;
                }
            }
            return false;
        }
    }

    /**
     * The saved states, in a ring with one place more than are kept: the place behind the newest takes the draft, so
     * that a step can be saved before it is known whether it will be refused.
     */
    private static final class History {
        static final int PLACES = MOST_STATES + 1;
        final Link[] states;
        int oldest;
        int kept;

        History() {
            states = new Link[PLACES];
            for (int i = 0; i < PLACES; i++) {
                states[i] = new Link();
            }
        }

        Link behindNewest() {
            return states[(oldest + kept) % PLACES];
        }

        void draft(Link link) {
            behindNewest().become(link);
        }

        void restoreDraft(Link link) {
            link.become(behindNewest());
        }

        void keepDraft() {
            if (kept >= MOST_STATES) {
                oldest = (oldest + 1) % PLACES;
            } else {
                kept++;
            }
        }

        int goBack(Link link) {
            if (kept == 0) {
                return NO;
            }
            kept--;
            restoreDraft(link);
            return kept;
        }
    }

    /** The text, and the orders that were found in it. */
    private static final class Text {
        final byte[] bytes;
        int length;
        final int[] letters;
        final int[] numbers;
        int orders;
        /** The place in its order: the numbers that have begun, and the digits of the one that is not ended. */
        boolean inOrder;
        int begun;
        int digits;

        Text() {
            bytes = new byte[MOST_BYTES];
            letters = new int[MOST_ORDERS];
            numbers = new int[MOST_ORDERS * MOST_NUMBERS];
        }

        int append(int c) {
            if (!within(c, 0, 127)) {
                return BAD;
            }
            if (length >= MOST_BYTES) {
                return FULL;
            }
            bytes[length] = (byte) c;
            length++;
            return length;
        }

        int letter(int order) {
            return within(order, 0, MOST_ORDERS - 1) ? letters[order] : NONE;
        }

        /** A number of an order, or NONE if it was not given: so "z h" has the proxy NONE. */
        int number(int order, int at) {
            return within(order, 0, MOST_ORDERS - 1) && within(at, 0, MOST_NUMBERS - 1)
                    ? numbers[order * MOST_NUMBERS + at] : NONE;
        }

        /** Reads the orders of the text; returns its fault, or NONE. */
        int findFault() {
            orders = 0;
            inOrder = false;
            for (int i = 0; i < length; i++) {
                if (!takes(bytes[i])) {
                    return i;
                }
            }
            return inOrder || orders == 0 ? length : NONE;
        }

        /** Takes the next byte, or returns false if it cannot stand there. */
        boolean takes(int c) {
            if (c == ' ') {
                digits = 0;
                return true;
            }
            if (!inOrder) {
                return beginsOrder(c);
            }
            if (c >= '0' && c <= '9') {
                return takesDigit(c - '0');
            }
            if (c != ';' || begun < leastNumbers(letters[orders])) {
                return false;
            }
            inOrder = false;
            orders++;
            return true;
        }

        boolean beginsOrder(int c) {
            if (leastNumbers(c) == NONE || orders >= MOST_ORDERS) {
                return false;
            }
            letters[orders] = c;
            for (int i = 0; i < MOST_NUMBERS; i++) {
                numbers[orders * MOST_NUMBERS + i] = NONE;
            }
            inOrder = true;
            begun = 0;
            digits = 0;
            return true;
        }

        boolean takesDigit(int digit) {
            if (digits == MOST_DIGITS || digits == 0 && begun == mostNumbers(letters[orders])) {
                return false;
            }
            if (digits == 0) {
                numbers[orders * MOST_NUMBERS + begun] = 0;
                begun++;
            }
            int at = orders * MOST_NUMBERS + begun - 1;
            numbers[at] = numbers[at] * 10 + digit;
            digits++;
            return true;
        }

        /** How many numbers an order must have; NONE if no order begins with this letter. */
        static int leastNumbers(int letter) {
            switch (letter) {
                case 'h':
                    return 0;
                case 't':
                case 'w':
                case 'z':
                    return 1;
                case 'g':
                    return 2;
                case 'a':
                    return 3;
                case 'c':
                case 's':
                    return 5;
                default:
                    return NONE;
            }
        }

        static int mostNumbers(int letter) {
            return letter == 'z' ? 2 : leastNumbers(letter);
        }
    }
}

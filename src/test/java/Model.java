import java.util.ArrayDeque;
import java.util.ArrayList;
import java.util.List;
import java.util.TreeSet;

/**
 * The document's house once more, written as plainly as the Java library lets it be, for comparing.
 * Beside its caches it has one flat memory that only drains and atomic ones change: word() must be that.
 */
final class Model {
    static final int HOME = 16;
    static final String[] KINDS = {"GETS", "GETM", "PUT", "INV", "DOWN", "ACK", "GIVES", "GIVEE", "GIVEM", "BACK", "DONE"};
    static final String CHANNELS = "00011222212";

    static final class Message {
        String kind;
        int from;
        int to;
        int line;
        int[] words;
    }

    static final class Copy {
        int way;
        char state;
        int[] words;
        long used;
        int line;
    }

    static final class Store {
        int address;
        boolean[] has = new boolean[4];
        int[] bytes = new int[4];
    }

    static final class Unit {
        int number;
        int[] x = new int[32];
        int place;
        int cause;
        ArrayDeque<Store> buffer = new ArrayDeque<>();
        List<Copy> copies = new ArrayList<>();
        Integer shelf;
        int[] shelfWords;
        Integer request;
        int retired;
        int misses;
        int waits;
        int greatest;
        List<int[]> trace = new ArrayList<>();
    }

    static final class Way {
        Integer line;
        int[] words;
        boolean changed;
        Integer owner;
        TreeSet<Integer> sharers = new TreeSet<>();
        Integer about;
        String ask;
        int acks;
        long taken;
    }

    final int buffer;
    final int sets;
    final int ways;
    final int homeSets;
    final int homeWays;
    final int[] flat;
    final int[] memory;
    final Unit[] units;
    final Way[][] home;
    final List<List<Message>> queues = new ArrayList<>();
    final List<Message> pool = new ArrayList<>();
    long clock;
    int delivered;
    int changed;
    int recalls;
    int entries;
    int idle;

    Model(int[] sizes, int[] words, int[] starts) {
        buffer = sizes[1];
        sets = sizes[2];
        ways = sizes[3];
        homeSets = sizes[4];
        homeWays = sizes[5];
        flat = words.clone();
        memory = words.clone();
        units = new Unit[sizes[0]];
        for (int i = 0; i < units.length; i++) {
            units[i] = new Unit();
            units[i].number = i;
            units[i].place = starts[i];
        }
        home = new Way[homeSets][homeWays];
        for (Way[] set : home) {
            queues.add(new ArrayList<>());
            for (int i = 0; i < homeWays; i++) {
                set[i] = new Way();
            }
        }
    }

    // ---- messages

    void send(String kind, int from, int to, int line, int[] words) {
        Message m = new Message();
        m.kind = kind;
        m.from = from;
        m.to = to;
        m.line = line;
        m.words = words == null ? null : words.clone();
        pool.add(m);
    }

    static int kindOf(Message m) {
        return List.of(KINDS).indexOf(m.kind);
    }

    static int channelOf(Message m) {
        return CHANNELS.charAt(kindOf(m)) - '0';
    }

    boolean deliver(int k) {
        if (k < 0 || k >= pool.size()) {
            return false;
        }
        Message m = pool.remove(k);
        delivered++;
        if (m.to == HOME) {
            atHome(m);
        } else {
            atCore(units[m.to], m);
        }
        return true;
    }

    boolean deliverOn(int channel, int k) {
        List<Message> those = new ArrayList<>();
        for (Message m : pool) {
            if (channelOf(m) == channel) {
                those.add(m);
            }
        }
        return k >= 0 && k < those.size() && deliver(pool.indexOf(those.get(k)));
    }

    // ---- the home

    Way wayOf(int line) {
        for (Way way : home[line % homeSets]) {
            if (way.line != null && way.line == line) {
                return way;
            }
        }
        return null;
    }

    void atHome(Message m) {
        List<Message> queue = queues.get(m.line % homeSets);
        Way way = wayOf(m.line);
        if (m.kind.equals("ACK")) {
            if (m.words != null) {
                way.words = m.words.clone();
                way.changed = true;
            }
            way.acks--;
            if (way.acks > 0) {
                return;
            }
            if (way.about == HOME) {
                writeBack(way);
                way.line = null;
                way.about = null;
                way.owner = null;
                way.sharers.clear();
            } else if (way.ask.equals("GETS")) {
                way.sharers.add(way.owner);
                way.sharers.add(way.about);
                way.owner = null;
                send("GIVES", HOME, way.about, m.line, way.words);
                return;
            } else {
                way.owner = way.about;
                way.sharers.clear();
                send("GIVEM", HOME, way.about, m.line, way.words);
                return;
            }
        } else if (m.kind.equals("DONE")) {
            way.about = null;
        } else {
            queue.add(m);
        }
        while (!queue.isEmpty() && taken(queue.get(0))) {
            queue.remove(0);
        }
    }

    void writeBack(Way way) {
        if (way.changed) {
            System.arraycopy(way.words, 0, memory, 4 * way.line, 4);
        }
    }

    boolean taken(Message m) {
        Way way = wayOf(m.line);
        if (way != null && way.about != null) {
            return false;
        }
        if (m.kind.equals("PUT")) {
            if (way != null && way.owner != null && way.owner == m.from) {
                way.words = m.words.clone();
                way.changed = true;
                way.owner = null;
            }
            send("BACK", HOME, m.from, m.line, null);
            return true;
        }
        if (way == null) {
            way = wayFor(m.line);
            if (way == null) {
                return false;
            }
        }
        way.taken = ++clock;
        way.about = m.from;
        way.ask = m.kind;
        if (m.kind.equals("GETS")) {
            if (way.owner != null) {
                send("DOWN", HOME, way.owner, m.line, null);
                way.acks = 1;
            } else if (way.sharers.isEmpty()) {
                way.owner = m.from;
                send("GIVEE", HOME, m.from, m.line, way.words);
            } else {
                way.sharers.add(m.from);
                send("GIVES", HOME, m.from, m.line, way.words);
            }
            return true;
        }
        TreeSet<Integer> those = havers(way);
        those.remove(m.from);
        for (int c : those) {
            send("INV", HOME, c, m.line, null);
        }
        way.acks = those.size();
        if (those.isEmpty()) {
            way.owner = m.from;
            way.sharers.clear();
            send("GIVEM", HOME, m.from, m.line, way.words);
        }
        return true;
    }

    TreeSet<Integer> havers(Way way) {
        TreeSet<Integer> those = new TreeSet<>(way.sharers);
        if (way.owner != null) {
            those.add(way.owner);
        }
        return those;
    }

    Way wayFor(int line) {
        Way best = null;
        for (Way way : home[line % homeSets]) {
            if (way.line == null) {
                best = way;
                break;
            }
        }
        if (best == null) {
            for (Way way : home[line % homeSets]) {
                if (way.about == null && (best == null || way.taken < best.taken)) {
                    best = way;
                }
            }
            if (best == null) {
                return null;
            }
            TreeSet<Integer> those = havers(best);
            if (!those.isEmpty()) {
                best.about = HOME;
                best.acks = those.size();
                recalls++;
                for (int c : those) {
                    send("INV", HOME, c, best.line, null);
                }
                return null;
            }
            writeBack(best);
        }
        best.line = line;
        best.words = new int[4];
        System.arraycopy(memory, 4 * line, best.words, 0, 4);
        best.changed = false;
        best.owner = null;
        best.sharers.clear();
        best.acks = 0;
        return best;
    }

    // ---- a core's cache

    Copy copyOf(Unit u, int line) {
        for (Copy copy : u.copies) {
            if (copy.line == line) {
                return copy;
            }
        }
        return null;
    }

    void atCore(Unit u, Message m) {
        Copy copy = copyOf(u, m.line);
        if (m.kind.equals("BACK")) {
            u.shelf = null;
            u.shelfWords = null;
        } else if (m.kind.startsWith("GIVE")) {
            if (copy == null) {
                copy = new Copy();
                copy.line = m.line;
                copy.way = lowestFree(u, m.line);
                u.copies.add(copy);
            }
            copy.words = m.words.clone();
            copy.state = m.kind.charAt(4);
            copy.used = ++clock;
            u.request = null;
            send("DONE", u.number, HOME, m.line, null);
        } else {
            int[] words = null;
            if (copy != null && copy.state != 'S') {
                words = copy.words;
            } else if (u.shelf != null && u.shelf == m.line) {
                words = u.shelfWords;
            }
            send("ACK", u.number, HOME, m.line, words);
            if (u.shelf != null && u.shelf == m.line) {
                u.shelfWords = null;
            }
            if (m.kind.equals("INV")) {
                u.copies.remove(copy);
            } else if (copy != null) {
                copy.state = 'S';
            }
        }
    }

    int lowestFree(Unit u, int line) {
        for (int way = 0; way < ways; way++) {
            boolean free = true;
            for (Copy copy : u.copies) {
                free &= copy.line % sets != line % sets || copy.way != way;
            }
            if (free) {
                return way;
            }
        }
        return -1;
    }

    void miss(Unit u, int line, String kind) {
        if (u.request != null || u.shelf != null && u.shelf == line) {
            return;
        }
        if (copyOf(u, line) == null && lowestFree(u, line) < 0) {
            Copy oldest = null;
            for (Copy copy : u.copies) {
                if (copy.line % sets == line % sets && (oldest == null || copy.used < oldest.used)) {
                    oldest = copy;
                }
            }
            if (oldest.state != 'S') {
                if (u.shelf != null) {
                    return;
                }
                u.shelf = oldest.line;
                u.shelfWords = oldest.words.clone();
                send("PUT", u.number, HOME, oldest.line, oldest.words);
            }
            u.copies.remove(oldest);
        }
        u.request = line;
        u.misses++;
        send(kind, u.number, HOME, line, null);
    }

    /** The bytes from an address on, as many as asked, or null if the core must wait. */
    int[] read(Unit u, int address, int size) {
        int[] bytes = new int[size];
        boolean used = false;
        for (int i = 0; i < size; i++) {
            int at = address + i;
            boolean stored = false;
            for (Store store : u.buffer) {
                if (store.address == (at & ~3) && store.has[at & 3]) {
                    bytes[i] = store.bytes[at & 3];
                    stored = true;
                }
            }
            if (!stored) {
                Copy copy = copyOf(u, at / 16);
                if (copy == null) {
                    miss(u, at / 16, "GETS");
                    return null;
                }
                if (!used) {
                    copy.used = ++clock;
                    used = true;
                }
                bytes[i] = copy.words[at / 4 % 4] >> 8 * (at & 3) & 255;
            }
        }
        return bytes;
    }

    static int join(int[] bytes) {
        int sum = 0;
        for (int i = 0; i < bytes.length; i++) {
            sum |= bytes[i] << 8 * i;
        }
        return sum;
    }

    Copy toChange(Unit u, int address) {
        Copy copy = copyOf(u, address / 16);
        if (copy == null || copy.state == 'S') {
            miss(u, address / 16, "GETM");
            return null;
        }
        copy.used = ++clock;
        copy.state = 'M';
        changed++;
        return copy;
    }

    int drain(int core) {
        Unit u = units[core];
        if (u.buffer.isEmpty()) {
            return 0;
        }
        Store store = u.buffer.peekFirst();
        Copy copy = toChange(u, store.address);
        if (copy == null) {
            return 2;
        }
        u.buffer.removeFirst();
        int w = flat[store.address / 4];
        for (int i = 0; i < 4; i++) {
            if (store.has[i]) {
                w = w & ~(255 << 8 * i) | store.bytes[i] << 8 * i;
            }
        }
        flat[store.address / 4] = w;
        int at = store.address / 4 % 4;
        int c = copy.words[at];
        for (int i = 0; i < 4; i++) {
            if (store.has[i]) {
                c = c & ~(255 << 8 * i) | store.bytes[i] << 8 * i;
            }
        }
        copy.words[at] = c;
        return 1;
    }

    // ---- a step

    int step(int core) {
        Unit u = units[core];
        if (u.cause != 0) {
            return 0;
        }
        if (u.place % 4 != 0) {
            u.cause = 3;
            return 1;
        }
        int[] fetched = read(u, u.place, 4);
        if (fetched == null) {
            return 2;
        }
        return perform(u, join(fetched));
    }

    int retire(Unit u, int w, int d, int value, int address, int read, int put, int place) {
        if (d != 0) {
            u.x[d] = value;
        }
        u.trace.add(0, new int[] {u.place, w, d, u.x[d], address, read, put, u.retired});
        if (u.trace.size() > 32) {
            u.trace.remove(32);
        }
        u.retired++;
        u.waits = 0;
        u.place = place & 8191;
        return 1;
    }

    int stop(Unit u, int w, int cause) {
        u.cause = cause;
        return retire(u, w, 0, 0, -1, 0, 0, u.place);
    }

    static int field(int w, int high, int low) {
        return (int) ((w & 0xffffffffL) >> low & (1L << high - low + 1) - 1);
    }

    static int signed(int value, int bits) {
        return value >= 1 << bits - 1 ? value - (1 << bits) : value;
    }

    int perform(Unit u, int w) {
        int opcode = field(w, 6, 0);
        int d = field(w, 11, 7);
        int f3 = field(w, 14, 12);
        int a = u.x[field(w, 19, 15)];
        int b = u.x[field(w, 24, 20)];
        int f7 = field(w, 31, 25);
        int immI = signed(field(w, 31, 20), 12);
        int immS = signed(field(w, 31, 25) * 32 + field(w, 11, 7), 12);
        int immB = signed(field(w, 31, 31) * 4096 + field(w, 7, 7) * 2048 + field(w, 30, 25) * 32
            + field(w, 11, 8) * 2, 13);
        int immJ = signed(field(w, 31, 31) * 1048576 + field(w, 19, 12) * 4096 + field(w, 20, 20) * 2048
            + field(w, 30, 21) * 2, 21);
        int immU = field(w, 31, 12) * 4096;
        if (opcode == 0b0110111) {
            return retire(u, w, d, immU, -1, 0, 0, u.place + 4);
        }
        if (opcode == 0b0010111) {
            return retire(u, w, d, u.place + immU, -1, 0, 0, u.place + 4);
        }
        if (opcode == 0b1101111) {
            return retire(u, w, d, u.place + 4, -1, 0, 0, u.place + immJ);
        }
        if (opcode == 0b1100111 && f3 == 0) {
            return retire(u, w, d, u.place + 4, -1, 0, 0, (a + immI) & ~1);
        }
        if (opcode == 0b1100011 && f3 != 2 && f3 != 3) {
            long ua = a & 0xffffffffL;
            long ub = b & 0xffffffffL;
            boolean[] all = {a == b, a != b, false, false, a < b, a >= b, ua < ub, ua >= ub};
            return retire(u, w, 0, 0, -1, 0, 0, u.place + (all[f3] ? immB : 4));
        }
        if (opcode == 0b0000011 && (f3 <= 2 || f3 == 4 || f3 == 5)) {
            int size = new int[] {1, 2, 4, 0, 1, 2}[f3];
            int address = (a + immI) & 8191;
            if (address % size != 0) {
                return stop(u, w, 4);
            }
            int[] bytes = read(u, address, size);
            if (bytes == null) {
                return 3;
            }
            int value = join(bytes);
            if (f3 < 2) {
                value = signed(value, 8 * size);
            }
            return retire(u, w, d, value, address, value, 0, u.place + 4);
        }
        if (opcode == 0b0100011 && f3 <= 2) {
            int size = 1 << f3;
            int address = (a + immS) & 8191;
            if (address % size != 0) {
                return stop(u, w, 4);
            }
            if (u.buffer.size() >= buffer) {
                return 4;
            }
            Store store = new Store();
            store.address = address & ~3;
            int put = 0;
            for (int i = 0; i < size; i++) {
                store.has[(address & 3) + i] = true;
                store.bytes[(address & 3) + i] = b >> 8 * i & 255;
                put |= (b >> 8 * i & 255) << 8 * i;
            }
            u.buffer.addLast(store);
            return retire(u, w, 0, 0, address, 0, put, u.place + 4);
        }
        if (opcode == 0b0010011 && (f3 != 1 || f7 == 0) && (f3 != 5 || f7 == 0 || f7 == 32)) {
            return retire(u, w, d, reckon(f3, f3 == 5 && f7 == 32, a, immI), -1, 0, 0, u.place + 4);
        }
        if (opcode == 0b0110011 && (f7 == 0 || f7 == 32 && (f3 == 0 || f3 == 5))) {
            return retire(u, w, d, reckon(f3, f7 == 32, a, b), -1, 0, 0, u.place + 4);
        }
        if (opcode == 0b0001111 && f3 == 0) {
            return u.buffer.isEmpty() ? retire(u, w, 0, 0, -1, 0, 0, u.place + 4) : 5;
        }
        if (w == 0b1110011 || w == 0x100073) {
            return stop(u, w, 1);
        }
        if (opcode == 0b0101111 && f3 == 2) {
            return atomic(u, w, d, a & 8191, b);
        }
        return stop(u, w, 2);
    }

    static int reckon(int f3, boolean other, int a, int b) {
        switch (f3) {
            case 0:
                return other ? a - b : a + b;
            case 1:
                return a << (b & 31);
            case 2:
                return a < b ? 1 : 0;
            case 3:
                return (a & 0xffffffffL) < (b & 0xffffffffL) ? 1 : 0;
            case 4:
                return a ^ b;
            case 5:
                return other ? a >> (b & 31) : (int) ((a & 0xffffffffL) >> (b & 31));
            case 6:
                return a | b;
            default:
                return a & b;
        }
    }

    int atomic(Unit u, int w, int d, int address, int b) {
        int which = field(w, 31, 27);
        List<Integer> known = List.of(0, 1, 4, 8, 12, 16, 20, 24, 28);
        if (!known.contains(which)) {
            return stop(u, w, 2);
        }
        if (address % 4 != 0) {
            return stop(u, w, 4);
        }
        if (!u.buffer.isEmpty()) {
            return 5;
        }
        Copy copy = toChange(u, address);
        if (copy == null) {
            return 6;
        }
        int old = copy.words[address / 4 % 4];
        long ul = old & 0xffffffffL;
        long ub = b & 0xffffffffL;
        int put;
        switch (which) {
            case 0:
                put = old + b;
                break;
            case 1:
                put = b;
                break;
            case 4:
                put = old ^ b;
                break;
            case 8:
                put = old | b;
                break;
            case 12:
                put = old & b;
                break;
            case 16:
                put = Math.min(old, b);
                break;
            case 20:
                put = Math.max(old, b);
                break;
            case 24:
                put = (int) Math.min(ul, ub);
                break;
            default:
                put = (int) Math.max(ul, ub);
                break;
        }
        copy.words[address / 4 % 4] = put;
        flat[address / 4] = put;
        return retire(u, w, d, old, address, old, put, u.place + 4);
    }

    // ---- run and play

    int run(int n) {
        int before = retired();
        for (int i = 0; i < n; i++) {
            for (int c = 0; c < units.length; c++) {
                step(c);
                drain(c);
            }
            while (deliver(0)) {
                continue;
            }
        }
        return retired() - before;
    }

    int retired() {
        int sum = 0;
        for (Unit u : units) {
            sum += u.retired;
        }
        return sum;
    }

    /** A schedule without fault. */
    int play(String schedule) {
        int before = idle;
        String s = schedule.replace(" ", "");
        int at = 0;
        while (at < s.length()) {
            char what = s.charAt(at);
            int first = Character.digit(s.charAt(at + 1), 16);
            for (Unit u : units) {
                if (u.cause == 0) {
                    u.waits++;
                    u.greatest = Math.max(u.greatest, u.waits);
                }
            }
            boolean did;
            if (what == 's') {
                did = first < units.length && step(first) != 0;
                at += 2;
            } else if (what == 'd') {
                did = first < units.length && drain(first) != 0;
                at += 2;
            } else {
                int second = Character.digit(s.charAt(at + 2), 16);
                did = what == 'm' ? deliver(16 * first + second) : deliverOn(first, second);
                at += 3;
            }
            entries++;
            idle += did ? 0 : 1;
        }
        return idle - before;
    }
}

import java.util.Arrays;
import java.util.NoSuchElementException;

/** Cores with store buffers and caches over one shared cache and memory; see the document's promises. */
public final class CoreHouse {
    public static final int NONE = -1;

    private static final int MOST_CORES = 16;
    private static final int MOST_STORES = 16;
    private static final int MOST_SLOTS = 32;
    private static final int MOST_WAYS = 512;
    private static final int MEMORY_BYTES = 8192;
    private static final int MEMORY_WORDS = 2048;
    private static final int LINES = 512;
    private static final int LINE_WORDS = 4;
    private static final int ADDRESS_MASK = MEMORY_BYTES - 1;
    private static final int TAPE_LENGTH = 1500;
    /** The shortest statement that counts ("ret;") has four characters. */
    private static final int MOST_ITEMS = 375;
    /** The shortest label ("a:") has two characters. */
    private static final int MOST_LABELS = 750;
    private static final int MOST_ROUNDS = 200;
    /** Far above what the caches can have on their way at once. */
    private static final int MOST_DELIVERIES = 1000000;

    private static final int HOME = 16;
    private static final int RECALL = 16;

    private static final int GETS = 0;
    private static final int GETM = 1;
    private static final int PUT = 2;
    private static final int INV = 3;
    private static final int DOWN = 4;
    private static final int ACK = 5;
    private static final int GIVE_S = 6;
    private static final int GIVE_E = 7;
    private static final int GIVE_M = 8;
    private static final int BACK = 9;
    private static final int DONE = 10;
    private static final int[] CHANNELS = {0, 0, 0, 1, 1, 2, 2, 2, 2, 1, 2};

    private static final int ABSENT = 0;
    private static final int SHARED = 1;
    private static final int ALONE = 2;
    private static final int CHANGED = 3;

    private static final int GOES_ON = 0;
    private static final int BY_CALL = 1;
    private static final int BY_WORD = 2;
    private static final int BY_PLACE = 3;
    private static final int BY_ADDRESS = 4;

    /** For each choice of a word's bytes the bits that they take. */
    private static final int[] BYTE_BITS = {
        0, 0xff, 0xff00, 0xffff, 0xff0000, 0xff00ff, 0xffff00, 0xffffff,
        0xff000000, 0xff0000ff, 0xff00ff00, 0xff00ffff, 0xffff0000, 0xffff00ff, 0xffffff00, 0xffffffff};

    private static final int BAD = 0;
    private static final int END = 1;
    private static final int NAME = 2;
    private static final int NUMBER = 3;

    private static final int PLAIN = 0;
    private static final int LOW = 1;
    private static final int SHIFT = 2;
    private static final int STORE = 3;
    private static final int BRANCH = 4;
    private static final int UPPER = 5;
    private static final int JUMP = 6;
    private static final int LOAD_NUMBER = 7;
    private static final int WORD = 8;
    private static final int ORG = 9;
    private static final int CORE = 10;

    private static final int CANNOT_STAND = 1;
    private static final int WRONG_LABEL = 2;
    private static final int DOES_NOT_FIT = 3;
    private static final int NO_SCHEDULE = 4;

    private static final Mnemonic[] MNEMONICS = Mnemonic.values();

    private final Tape tape = new Tape();
    private final Assembler assembler = new Assembler(tape);
    private final Pool pool = new Pool();
    private final Home shared = new Home(pool);
    private final Core[] cores = new Core[MOST_CORES];
    /** Cores, stores, sets, ways, the home's sets and ways: of this house, and of the next one. */
    private final int[] present = {1, 1, 1, 1, 1, 1};
    private final int[] next = {1, 1, 1, 1, 1, 1};
    private int faultKind;
    private int faultPlace;
    private int entries;
    private int idle;

    public CoreHouse() {
        for (int i = 0; i < MOST_CORES; i++) {
            cores[i] = new Core(i, pool);
        }
    }

    public boolean type(long word, int n) {
        return tape.append(word, n);
    }

    public boolean sizes(int cores, int buffer, int sets, int ways, int homeSets, int homeWays) {
        if (cores < 1 || cores > MOST_CORES || buffer < 1 || buffer > MOST_STORES) {
            return false;
        }
        if (!isPower(sets, 8) || !isPower(ways, 4) || !isPower(homeSets, 64) || homeWays < 1 || homeWays > 8) {
            return false;
        }
        if (homeSets * homeWays < cores * sets * ways) {
            return false;
        }
        next[0] = cores;
        next[1] = buffer;
        next[2] = sets;
        next[3] = ways;
        next[4] = homeSets;
        next[5] = homeWays;
        return true;
    }

    private static boolean isPower(int size, int most) {
        return size >= 1 && size <= most && (size & size - 1) == 0;
    }

    public int assemble() throws IllegalArgumentException {
        int words = assembler.translate();
        tape.clear();
        faultKind = assembler.faultKind;
        faultPlace = assembler.faultPlace;
        if (faultKind != 0) {
            throw new IllegalArgumentException("the text has a fault");
        }
        beginAnew();
        return words;
    }

    private void beginAnew() {
        System.arraycopy(next, 0, present, 0, present.length);
        pool.clear();
        shared.begin(present[4], present[5]);
        assembler.emit(shared.memory);
        for (int i = 0; i < MOST_CORES; i++) {
            cores[i].begin(assembler.starts[i], present[1], present[2], present[3]);
        }
        entries = 0;
        idle = 0;
    }

    public int fault(int what) {
        return what == 0 ? faultKind : what == 1 ? faultPlace : NONE;
    }

    public int step(int core) throws IndexOutOfBoundsException {
        if (!isCore(core)) {
            throw new IndexOutOfBoundsException("no such core");
        }
        return cores[core].advance();
    }

    public int drain(int core) throws IndexOutOfBoundsException {
        if (!isCore(core)) {
            throw new IndexOutOfBoundsException("no such core");
        }
        return cores[core].settle();
    }

    private boolean isCore(int core) {
        return core >= 0 && core < present[0];
    }

    public boolean deliver(int k) {
        return carry(k);
    }

    public boolean deliverOn(int channel, int k) {
        return carry(pool.placeOn(channel, k));
    }

    private boolean carry(int k) {
        if (!pool.takeOut(k)) {
            return false;
        }
        int to = pool.taken[Pool.TO];
        if (to == HOME) {
            shared.receive(pool.taken);
        } else if (isCore(to)) {
            cores[to].receive(pool.taken);
        }
        return true;
    }

    public int run(int n) throws IllegalArgumentException {
        if (n < 1 || n > MOST_ROUNDS) {
            throw new IllegalArgumentException("1 to 200 rounds");
        }
        int before = retired();
        for (int round = 0; round < n; round++) {
            for (int i = 0; i < present[0]; i++) {
                cores[i].advance();
                cores[i].settle();
            }
            for (int left = MOST_DELIVERIES; left > 0 && pool.count > 0; left--) {
                carry(0);
            }
        }
        return retired() - before;
    }

    private int retired() {
        int sum = 0;
        for (int i = 0; i < present[0]; i++) {
            sum += cores[i].history.noted;
        }
        return sum;
    }

    private int changed() {
        int sum = 0;
        for (int i = 0; i < present[0]; i++) {
            sum += cores[i].changed;
        }
        return sum;
    }

    public int play() throws IllegalArgumentException {
        int wrong = tape.scheduleFault();
        faultKind = wrong == NONE ? 0 : NO_SCHEDULE;
        faultPlace = wrong == NONE ? 0 : wrong;
        int length = tape.length;
        tape.clear();
        if (faultKind != 0) {
            throw new IllegalArgumentException("the schedule has a fault");
        }
        int before = idle;
        for (int at = 0; at < length; at++) {
            int digits = Tape.digitsBehind(tape.marks[at]);
            if (digits > 0) {
                int first = Tape.digit(tape.marks[at + 1]);
                int last = Tape.digit(tape.marks[at + digits]);
                boolean done;
                growWaits();
                switch (tape.marks[at]) {
                    case 's':
                        done = isCore(first) && cores[first].advance() != 0;
                        break;
                    case 'd':
                        done = isCore(first) && cores[first].settle() != 0;
                        break;
                    case 'm':
                        done = carry(16 * first + last);
                        break;
                    default:
                        done = carry(pool.placeOn(first, last));
                        break;
                }
                entries++;
                idle += done ? 0 : 1;
                at += digits;
            }
        }
        return idle - before;
    }

    private void growWaits() {
        for (int i = 0; i < present[0]; i++) {
            cores[i].growWaits();
        }
    }

    public int trace(int core, int k, int what) throws NoSuchElementException {
        if (!isCore(core) || !cores[core].history.has(k) || what < 0 || what >= Trace.PARTS) {
            throw new NoSuchElementException("nothing such in the trace");
        }
        return cores[core].history.get(k, what);
    }

    public int core(int core, int what) throws NoSuchElementException {
        if (!isCore(core) || !cores[core].tells(what)) {
            throw new NoSuchElementException("nothing such of a core");
        }
        return cores[core].tell(what);
    }

    public int cached(int core, int line) {
        if (!isCore(core) || line < 0 || line >= LINES) {
            return NONE;
        }
        int slot = cores[core].cache.find(line);
        return slot < 0 ? ABSENT : cores[core].cache.states[slot];
    }

    public int copy(int core, int address) throws NoSuchElementException {
        int slot = isCore(core) && isWord(address) ? cores[core].cache.find(address >> 4) : NONE;
        if (slot < 0) {
            throw new NoSuchElementException("no such copy");
        }
        return cores[core].cache.words[wordOf(slot, address)];
    }

    private static boolean isWord(int address) {
        return address >= 0 && address < MEMORY_BYTES && (address & 3) == 0;
    }

    /** Where the word of an address is in rows that have four words for each slot. */
    private static int wordOf(int slot, int address) {
        return slot * LINE_WORDS + (address >> 2 & 3);
    }

    public int home(int line, int what) throws NoSuchElementException {
        int way = line >= 0 && line < LINES ? shared.find(line) : NONE;
        if (way < 0 || what < 0 || what > 9) {
            throw new NoSuchElementException("nothing such in the home");
        }
        return shared.tell(way, what);
    }

    public int waiting(int set) {
        return set >= 0 && set < shared.sets ? shared.countAt(set) : NONE;
    }

    public int memory(int address) throws IndexOutOfBoundsException {
        if (!isWord(address)) {
            throw new IndexOutOfBoundsException("no such word");
        }
        return shared.memory[address >> 2];
    }

    public int word(int address) throws IndexOutOfBoundsException {
        if (!isWord(address)) {
            throw new IndexOutOfBoundsException("no such word");
        }
        int way = shared.find(address >> 4);
        if (way < 0) {
            return shared.memory[address >> 2];
        }
        int owner = shared.owners[way];
        return isCore(owner) ? lent(cores[owner], way, address) : shared.words[wordOf(way, address)];
    }

    /** A line that has an owner is with it, on its way back, or not yet with it. */
    private int lent(Core owner, int way, int address) {
        int line = address >> 4;
        int slot = owner.cache.find(line);
        if (slot >= 0 && owner.cache.states[slot] >= ALONE) {
            return owner.cache.words[wordOf(slot, address)];
        }
        if (owner.shelfLine == line && !owner.shelfGone) {
            return owner.shelfWords[address >> 2 & 3];
        }
        int k = pool.placeOfWords(ACK, line);
        return k >= 0 ? pool.get(k, Pool.WORDS + (address >> 2 & 3)) : shared.words[wordOf(way, address)];
    }

    public int message(int k, int what) throws NoSuchElementException {
        if (k < 0 || k >= pool.count || what < 0 || what > Pool.PARTS) {
            throw new NoSuchElementException("no such message");
        }
        return what == Pool.PARTS ? CHANNELS[pool.get(k, Pool.KIND)] : pool.get(k, what);
    }

    public int total(int what) {
        switch (what) {
            case 0:
                return present[0];
            case 1:
                return pool.count;
            case 2:
                return retired();
            case 3:
                return pool.delivered;
            case 4:
                return changed();
            case 5:
                return shared.recalls;
            case 6:
                return shared.countLines();
            case 7:
            case 8:
            case 9:
            case 10:
            case 11:
                return present[what - 6];
            case 12:
                return entries;
            case 13:
                return idle;
            default:
                return NONE;
        }
    }

    /** What was typed, read as tokens of a text or as entries of a schedule. */
    private static final class Tape {
        final char[] marks = new char[TAPE_LENGTH];
        int length;
        private int at;
        /** The token that stands next: BAD, END, NAME, NUMBER, or the sign itself. */
        int kind;
        int start;
        /** A number's value, or a name's characters packed. */
        long value;

        boolean append(long word, int n) {
            if (n < 1 || n > 8 || length + n > TAPE_LENGTH) {
                return false;
            }
            for (int i = 0; i < n; i++) {
                int mark = (int) (word >>> 8 * i) & 0xff;
                if (mark < 32 || mark > 126) {
                    return false;
                }
            }
            for (int i = n - 1; i >= 0; i--) {
                marks[length] = (char) (word >>> 8 * i & 0xff);
                length++;
            }
            return true;
        }

        void clear() {
            length = 0;
        }

        void rewind() {
            at = 0;
            next();
        }

        void next() {
            while (at < length && marks[at] == ' ') {
                at++;
            }
            start = at;
            value = 0;
            if (at >= length) {
                kind = END;
            } else if (isLetter(marks[at])) {
                scanName();
            } else if (isDigit(marks[at])) {
                scanNumber();
            } else {
                kind = isSign(marks[at]) ? marks[at] : BAD;
                at++;
            }
        }

        private static boolean isLetter(char mark) {
            return mark >= 'a' && mark <= 'z';
        }

        private static boolean isDigit(char mark) {
            return mark >= '0' && mark <= '9';
        }

        private static boolean isSign(char mark) {
            return mark == ':' || mark == ';' || mark == ',' || mark == '(' || mark == ')' || mark == '-';
        }

        // The two below call nothing: calls go at most eight deep, and these are the eighth.

        private void scanName() {
            while (at < length && (marks[at] >= 'a' && marks[at] <= 'z' || marks[at] >= '0' && marks[at] <= '9')) {
                value = value << 8 | marks[at];
                at++;
            }
            kind = at - start <= 8 ? NAME : BAD;
        }

        /** A number ends where its digits do: a name may stand right behind it. */
        private void scanNumber() {
            boolean hex = marks[at] == '0' && at + 1 < length && marks[at + 1] == 'x';
            int base = hex ? 16 : 10;
            int first = hex ? at + 2 : at;
            for (at = first; at < length; at++) {
                boolean decimal = marks[at] >= '0' && marks[at] <= '9';
                boolean letter = hex && marks[at] >= 'a' && marks[at] <= 'f';
                if (!decimal && !letter) {
                    break;
                }
                value = value * base + (decimal ? marks[at] - '0' : marks[at] - 'a' + 10);
            }
            int digits = at - first;
            kind = digits >= 1 && digits <= (hex ? 8 : 10) ? NUMBER : BAD;
        }

        /** The first place where no schedule has what is there; NONE if all is well. */
        int scheduleFault() {
            for (int i = 0; i < length; i++) {
                if (marks[i] != ' ') {
                    int digits = digitsBehind(marks[i]);
                    if (digits == 0) {
                        return i;
                    }
                    for (int j = i + 1; j <= i + digits; j++) {
                        int most = marks[i] == 'r' && j == i + 1 ? 2 : 15;
                        if (j >= length || digit(marks[j]) < 0 || digit(marks[j]) > most) {
                            return j;
                        }
                    }
                    i += digits;
                }
            }
            return NONE;
        }

        static int digitsBehind(char mark) {
            return mark == 's' || mark == 'd' ? 1 : mark == 'm' || mark == 'r' ? 2 : 0;
        }

        static int digit(char mark) {
            if (mark >= '0' && mark <= '9') {
                return mark - '0';
            }
            return mark >= 'a' && mark <= 'f' ? mark - 'a' + 10 : NONE;
        }
    }

    /** The assembler's words: their operands, how their number goes into the bits, and the bits without operands. */
    private enum Mnemonic {
        ADD("add", "d,a,b", PLAIN, 0x33),
        SUB("sub", "d,a,b", PLAIN, 0x40000033),
        SLL("sll", "d,a,b", PLAIN, 0x1033),
        SLT("slt", "d,a,b", PLAIN, 0x2033),
        SLTU("sltu", "d,a,b", PLAIN, 0x3033),
        XOR("xor", "d,a,b", PLAIN, 0x4033),
        SRL("srl", "d,a,b", PLAIN, 0x5033),
        SRA("sra", "d,a,b", PLAIN, 0x40005033),
        OR("or", "d,a,b", PLAIN, 0x6033),
        AND("and", "d,a,b", PLAIN, 0x7033),
        ADDI("addi", "d,a,N", LOW, 0x13),
        SLTI("slti", "d,a,N", LOW, 0x2013),
        SLTIU("sltiu", "d,a,N", LOW, 0x3013),
        XORI("xori", "d,a,N", LOW, 0x4013),
        ORI("ori", "d,a,N", LOW, 0x6013),
        ANDI("andi", "d,a,N", LOW, 0x7013),
        SLLI("slli", "d,a,N", SHIFT, 0x1013),
        SRLI("srli", "d,a,N", SHIFT, 0x5013),
        SRAI("srai", "d,a,N", SHIFT, 0x40005013),
        LB("lb", "d,N(a)", LOW, 0x03),
        LH("lh", "d,N(a)", LOW, 0x1003),
        LW("lw", "d,N(a)", LOW, 0x2003),
        LBU("lbu", "d,N(a)", LOW, 0x4003),
        LHU("lhu", "d,N(a)", LOW, 0x5003),
        SB("sb", "b,N(a)", STORE, 0x23),
        SH("sh", "b,N(a)", STORE, 0x1023),
        SW("sw", "b,N(a)", STORE, 0x2023),
        BEQ("beq", "a,b,N", BRANCH, 0x63),
        BNE("bne", "a,b,N", BRANCH, 0x1063),
        BLT("blt", "a,b,N", BRANCH, 0x4063),
        BGE("bge", "a,b,N", BRANCH, 0x5063),
        BLTU("bltu", "a,b,N", BRANCH, 0x6063),
        BGEU("bgeu", "a,b,N", BRANCH, 0x7063),
        LUI("lui", "d,N", UPPER, 0x37),
        AUIPC("auipc", "d,N", UPPER, 0x17),
        JAL("jal", "d,N", JUMP, 0x6f),
        JALR("jalr", "d,N(a)", LOW, 0x67),
        AMOSWAP("amoswap", "d,b,(a)", PLAIN, 0x0800202f),
        AMOADD("amoadd", "d,b,(a)", PLAIN, 0x0000202f),
        AMOXOR("amoxor", "d,b,(a)", PLAIN, 0x2000202f),
        AMOAND("amoand", "d,b,(a)", PLAIN, 0x6000202f),
        AMOOR("amoor", "d,b,(a)", PLAIN, 0x4000202f),
        AMOMIN("amomin", "d,b,(a)", PLAIN, 0x8000202f),
        AMOMAX("amomax", "d,b,(a)", PLAIN, 0xa000202f),
        AMOMINU("amominu", "d,b,(a)", PLAIN, 0xc000202f),
        AMOMAXU("amomaxu", "d,b,(a)", PLAIN, 0xe000202f),
        FENCE("fence", "", PLAIN, 0x0ff0000f),
        ECALL("ecall", "", PLAIN, 0x73),
        EBREAK("ebreak", "", PLAIN, 0x100073),
        NOP("nop", "", PLAIN, 0x13),
        MV("mv", "d,a", PLAIN, 0x13),
        NOT("not", "d,a", PLAIN, 0xfff04013),
        NEG("neg", "d,b", PLAIN, 0x40000033),
        J("j", "N", JUMP, 0x6f),
        RET("ret", "", PLAIN, 0x8067),
        BEQZ("beqz", "a,N", BRANCH, 0x63),
        BNEZ("bnez", "a,N", BRANCH, 0x1063),
        LI("li", "d,N", LOAD_NUMBER, 0x13),
        DATA("word", "N", WORD, 0),
        PLACED("org", "n", ORG, 0),
        BEGINS("core", "n", CORE, 0);

        final long key;
        final String operands;
        final int form;
        final int base;

        Mnemonic(String name, String operands, int form, int base) {
            long packed = 0;
            for (int i = 0; i < name.length(); i++) {
                packed = packed << 8 | name.charAt(i);
            }
            this.key = packed;
            this.operands = operands;
            this.form = form;
            this.base = base;
        }
    }

    /** Reads the whole text first, since labels may be told behind their use; then checks; then writes. */
    private static final class Assembler {
        private static final int WITHOUT = 0;
        private static final int FIGURE = 1;
        private static final int LABEL = 2;

        private final Tape text;
        private int items;
        private final int[] which = new int[MOST_ITEMS];
        private final int[] places = new int[MOST_ITEMS];
        private final int[] addresses = new int[MOST_ITEMS];
        private final int[] bits = new int[MOST_ITEMS];
        private final int[] numberKinds = new int[MOST_ITEMS];
        private final int[] numberPlaces = new int[MOST_ITEMS];
        /** Values; of labels their packed names until check() puts the values in. */
        private final long[] numbers = new long[MOST_ITEMS];
        private int labels;
        private final long[] labelNames = new long[MOST_LABELS];
        private final int[] labelPlaces = new int[MOST_LABELS];
        private final int[] labelAddresses = new int[MOST_LABELS];
        private int nextAddress;
        private int told;
        final int[] starts = new int[MOST_CORES];
        int faultKind;
        int faultPlace;

        Assembler(Tape text) {
            this.text = text;
        }

        /** How many words the text tells; what it answers with a fault is not looked at. */
        int translate() {
            items = 0;
            labels = 0;
            nextAddress = 0;
            told = 0;
            faultKind = 0;
            faultPlace = 0;
            Arrays.fill(starts, 0);
            text.rewind();
            for (int left = TAPE_LENGTH; left > 0 && text.kind != END; left--) {
                if (!readStatement()) {
                    return NONE;
                }
            }
            checkLabels();
            for (int i = 0; i < items; i++) {
                checkItem(i);
            }
            return told;
        }

        private boolean readStatement() {
            for (int left = TAPE_LENGTH; left > 0 && text.kind == NAME; left--) {
                long name = text.value;
                int place = text.start;
                text.next();
                if (text.kind == ':') {
                    addLabel(name, place);
                    text.next();
                } else if (text.kind == BAD) {
                    return refuse(text.start);
                } else {
                    int word = findWord(name);
                    return word < 0 ? refuse(place) : readInstruction(word, place);
                }
            }
            return readEnd();
        }

        private boolean refuse(int place) {
            faultKind = CANNOT_STAND;
            faultPlace = place;
            return false;
        }

        private boolean readEnd() {
            if (text.kind != ';') {
                return refuse(text.start);
            }
            text.next();
            return true;
        }

        private void addLabel(long name, int place) {
            if (labels < MOST_LABELS) {
                labelNames[labels] = name;
                labelPlaces[labels] = place;
                labelAddresses[labels] = nextAddress;
                labels++;
            }
        }

        private static int findWord(long name) {
            for (int i = 0; i < MNEMONICS.length; i++) {
                if (MNEMONICS[i].key == name) {
                    return i;
                }
            }
            return NONE;
        }

        private boolean readInstruction(int word, int place) {
            if (items >= MOST_ITEMS) {
                // No tape is long enough for this.
                return refuse(text.length);
            }
            which[items] = word;
            places[items] = place;
            bits[items] = MNEMONICS[word].base;
            numberKinds[items] = WITHOUT;
            String operands = MNEMONICS[word].operands;
            for (int i = 0; i < operands.length(); i++) {
                if (!readOperand(operands.charAt(i))) {
                    return refuse(text.start);
                }
            }
            layOut(MNEMONICS[word].form);
            return readEnd();
        }

        private boolean readOperand(char what) {
            switch (what) {
                case 'd':
                    return readRegister(7);
                case 'a':
                    return readRegister(15);
                case 'b':
                    return readRegister(20);
                case 'n':
                    return readNumber(false);
                case 'N':
                    return readNumber(true);
                default:
                    if (text.kind != what) {
                        return false;
                    }
                    text.next();
                    return true;
            }
        }

        private boolean readRegister(int shift) {
            int register = text.kind == NAME ? registerOf(text.value) : NONE;
            if (register < 0) {
                return false;
            }
            bits[items] |= register << shift;
            text.next();
            return true;
        }

        private static int registerOf(long name) {
            int last = (int) (name & 0xff) - '0';
            int ahead = (int) (name >>> 8 & 0xff) - '0';
            if (last < 0 || last > 9) {
                return NONE;
            }
            if (name >>> 8 == 'x') {
                return last;
            }
            boolean two = name >>> 16 == 'x' && (ahead == 1 || ahead == 2 || ahead == 3 && last < 2);
            return two ? 10 * ahead + last : NONE;
        }

        private boolean readNumber(boolean any) {
            numberPlaces[items] = text.start;
            boolean negative = any && text.kind == '-';
            if (negative) {
                text.next();
            }
            if (text.kind == NUMBER) {
                numberKinds[items] = FIGURE;
                numbers[items] = negative ? -text.value : text.value;
            } else if (text.kind == NAME && any && !negative) {
                numberKinds[items] = LABEL;
                numbers[items] = text.value;
            } else {
                return false;
            }
            text.next();
            return true;
        }

        /** Gives the newest item its address; that of li hangs on its number, so this stands behind the operands. */
        private void layOut(int form) {
            addresses[items] = nextAddress;
            long number = numbers[items];
            if (form == ORG) {
                nextAddress = fits(ORG, number) ? (int) number : MEMORY_BYTES;
            } else if (form == CORE) {
                if (fits(CORE, number)) {
                    starts[(int) number] = nextAddress & ADDRESS_MASK;
                }
            } else {
                nextAddress += 4 * wordsOf(items);
                told += wordsOf(items);
            }
            items++;
        }

        private int wordsOf(int item) {
            int form = MNEMONICS[which[item]].form;
            if (form == ORG || form == CORE) {
                return 0;
            }
            boolean small = numberKinds[item] == FIGURE && fits(LOW, numbers[item]);
            return form == LOAD_NUMBER && !small ? 2 : 1;
        }

        private static boolean fits(int form, long number) {
            switch (form) {
                case WORD:
                case LOAD_NUMBER:
                    return number >= -2147483648L && number <= 4294967295L;
                case UPPER:
                    return number >= 0 && number <= 1048575;
                case SHIFT:
                    return number >= 0 && number <= 31;
                case BRANCH:
                    return number >= -4096 && number <= 4094 && (number & 1) == 0;
                case JUMP:
                    return number >= -1048576 && number <= 1048574 && (number & 1) == 0;
                case ORG:
                    return number >= 0 && number <= 8188 && (number & 3) == 0;
                case CORE:
                    return number >= 0 && number <= 15;
                default:
                    return number >= -2048 && number <= 2047;
            }
        }

        private void noteFault(int kind, int place) {
            boolean nearer = place < faultPlace || place == faultPlace && kind < faultKind;
            if (faultKind == 0 || nearer) {
                faultKind = kind;
                faultPlace = place;
            }
        }

        private void checkLabels() {
            for (int i = 0; i < labels; i++) {
                if (findLabel(labelNames[i]) != i) {
                    noteFault(WRONG_LABEL, labelPlaces[i]);
                }
            }
        }

        private int findLabel(long name) {
            for (int i = 0; i < labels; i++) {
                if (labelNames[i] == name) {
                    return i;
                }
            }
            return NONE;
        }

        private void checkItem(int item) {
            int form = MNEMONICS[which[item]].form;
            int words = wordsOf(item);
            if (words > 0 && addresses[item] + 4 * words > MEMORY_BYTES) {
                noteFault(DOES_NOT_FIT, places[item]);
            }
            if (numberKinds[item] == WITHOUT) {
                return;
            }
            if (numberKinds[item] == LABEL) {
                int label = findLabel(numbers[item]);
                if (label < 0) {
                    noteFault(WRONG_LABEL, numberPlaces[item]);
                    return;
                }
                boolean relative = form == BRANCH || form == JUMP;
                numbers[item] = labelAddresses[label] - (relative ? addresses[item] : 0);
            }
            if (!fits(form, numbers[item])) {
                noteFault(DOES_NOT_FIT, numberPlaces[item]);
            }
        }

        /** Writes the words of a text that translate() found without fault. */
        void emit(int[] memory) {
            for (int i = 0; i < items; i++) {
                int words = wordsOf(i);
                int at = addresses[i] >> 2;
                if (words > 0 && at + words <= MEMORY_WORDS) {
                    memory[at] = words == 2 ? upperPart(i) : encode(i);
                    if (words == 2) {
                        memory[at + 1] = lowerPart(i);
                    }
                }
            }
        }

        private int upperPart(int item) {
            int number = (int) numbers[item];
            int low = number << 20 >> 20;
            int register = bits[item] & 0xf80;
            return 0x37 | register | number - low;
        }

        private int lowerPart(int item) {
            int register = bits[item] & 0xf80;
            return 0x13 | register | register << 8 | (int) numbers[item] << 20;
        }

        private int encode(int item) {
            int n = (int) numbers[item];
            switch (MNEMONICS[which[item]].form) {
                case LOW:
                case SHIFT:
                case LOAD_NUMBER:
                    return bits[item] | n << 20;
                case STORE:
                    return bits[item] | (n >> 5) << 25 | (n & 31) << 7;
                case BRANCH:
                    return bits[item] | (n >> 12) << 31 | (n >> 5 & 63) << 25 | (n >> 1 & 15) << 8 | (n >> 11 & 1) << 7;
                case UPPER:
                    return bits[item] | n << 12;
                case JUMP:
                    return bits[item] | (n >> 20) << 31 | (n >> 1 & 1023) << 21 | (n >> 11 & 1) << 20 | n & 0xff000;
                case WORD:
                    return n;
                default:
                    return bits[item];
            }
        }
    }

    /** All messages that wait, in the order in which they were sent, in one flat row. */
    private static final class Pool {
        static final int KIND = 0;
        static final int FROM = 1;
        static final int TO = 2;
        static final int LINE = 3;
        static final int FILLED = 4;
        static final int WORDS = 5;
        static final int PARTS = 9;

        private int[] rows = new int[64 * PARTS];
        int count;
        int delivered;
        /** The message that is being delivered. */
        final int[] taken = new int[PARTS];

        void clear() {
            count = 0;
            delivered = 0;
        }

        /** Sends a message with the four words from an index on, or without any if the row is null. */
        void send(int kind, int from, int to, int line, int[] words, int index) {
            int at = count * PARTS;
            if (at + PARTS > rows.length) {
                rows = Arrays.copyOf(rows, rows.length * 2);
            }
            rows[at + KIND] = kind;
            rows[at + FROM] = from;
            rows[at + TO] = to;
            rows[at + LINE] = line;
            rows[at + FILLED] = words == null ? 0 : 1;
            for (int i = 0; i < LINE_WORDS; i++) {
                rows[at + WORDS + i] = words == null ? 0 : words[index + i];
            }
            count++;
        }

        boolean takeOut(int k) {
            if (k < 0 || k >= count) {
                return false;
            }
            System.arraycopy(rows, k * PARTS, taken, 0, PARTS);
            System.arraycopy(rows, (k + 1) * PARTS, rows, k * PARTS, (count - k - 1) * PARTS);
            count--;
            delivered++;
            return true;
        }

        int get(int k, int part) {
            return rows[k * PARTS + part];
        }

        /** Where in the pool the k-th message of a channel is; NONE if there is none such. */
        int placeOn(int channel, int k) {
            int ahead = k;
            for (int i = 0; i < count && ahead >= 0; i++) {
                if (CHANNELS[get(i, KIND)] == channel) {
                    if (ahead == 0) {
                        return i;
                    }
                    ahead--;
                }
            }
            return NONE;
        }

        int placeOfWords(int kind, int line) {
            for (int i = 0; i < count; i++) {
                if (get(i, KIND) == kind && get(i, LINE) == line && get(i, FILLED) == 1) {
                    return i;
                }
            }
            return NONE;
        }
    }

    /** The shared cache with memory behind it; it alone says who has a line. */
    private static final class Home {
        /** Each core has at most one request and one line that goes back. */
        private static final int MOST_WAITING = 2 * MOST_CORES;

        private final Pool pool;
        final int[] memory = new int[MEMORY_WORDS];
        private final int[] lines = new int[MOST_WAYS];
        final int[] owners = new int[MOST_WAYS];
        private final int[] sharers = new int[MOST_WAYS];
        private final int[] abouts = new int[MOST_WAYS];
        /** GETS or GETM, where a way is about a core's request. */
        private final int[] asks = new int[MOST_WAYS];
        private final int[] due = new int[MOST_WAYS];
        private final boolean[] altered = new boolean[MOST_WAYS];
        private final int[] takenAt = new int[MOST_WAYS];
        final int[] words = new int[MOST_WAYS * LINE_WORDS];
        /** What waits at all sets, the first that came first; its parts are a message's. */
        private final int[] queue = new int[MOST_WAITING * Pool.PARTS];
        private int queued;
        int sets;
        private int ways;
        private int clock;
        int recalls;

        Home(Pool pool) {
            this.pool = pool;
            begin(1, 1);
        }

        private void begin(int sets, int ways) {
            this.sets = sets;
            this.ways = ways;
            Arrays.fill(memory, 0);
            Arrays.fill(lines, NONE);
            Arrays.fill(abouts, NONE);
            queued = 0;
            clock = 0;
            recalls = 0;
        }

        int find(int line) {
            int first = (line & sets - 1) * ways;
            for (int way = first; way < first + ways; way++) {
                if (lines[way] == line) {
                    return way;
                }
            }
            return NONE;
        }

        int tell(int way, int what) {
            switch (what) {
                case 0:
                    return owners[way];
                case 1:
                    return sharers[way];
                case 2:
                    return abouts[way];
                case 3:
                    return due[way];
                case 4:
                    return altered[way] ? 1 : 0;
                case 9:
                    return way - (lines[way] & sets - 1) * ways;
                default:
                    return words[way * LINE_WORDS + (what - 5 & 3)];
            }
        }

        int countAt(int set) {
            int sum = 0;
            for (int i = 0; i < queued; i++) {
                if ((queue[i * Pool.PARTS + Pool.LINE] & sets - 1) == set) {
                    sum++;
                }
            }
            return sum;
        }

        int countLines() {
            int sum = 0;
            for (int way = 0; way < sets * ways; way++) {
                if (lines[way] != NONE) {
                    sum++;
                }
            }
            return sum;
        }

        void receive(int[] message) {
            int line = message[Pool.LINE];
            int kind = message[Pool.KIND];
            boolean serves = true;
            if (kind == ACK) {
                serves = acknowledge(message);
            } else if (kind == DONE) {
                endRequest(line);
            } else if (queued < MOST_WAITING) {
                System.arraycopy(message, 0, queue, queued * Pool.PARTS, Pool.PARTS);
                queued++;
            }
            for (int left = MOST_WAITING; serves && left > 0; left--) {
                int first = firstAt(line & sets - 1);
                serves = first >= 0 && take(first * Pool.PARTS);
                if (serves) {
                    leaveQueue(first);
                }
            }
        }

        private int firstAt(int set) {
            for (int i = 0; i < queued; i++) {
                if ((queue[i * Pool.PARTS + Pool.LINE] & sets - 1) == set) {
                    return i;
                }
            }
            return NONE;
        }

        private void leaveQueue(int i) {
            int parts = Pool.PARTS;
            System.arraycopy(queue, (i + 1) * parts, queue, i * parts, (queued - i - 1) * parts);
            queued--;
        }

        private void endRequest(int line) {
            int way = find(line);
            if (way >= 0) {
                abouts[way] = NONE;
            }
        }

        /** Takes what the queue has at an index; false if it must wait. */
        private boolean take(int at) {
            int line = queue[at + Pool.LINE];
            int core = queue[at + Pool.FROM];
            int way = find(line);
            if (way >= 0 && abouts[way] != NONE) {
                return false;
            }
            if (queue[at + Pool.KIND] == PUT) {
                takeBack(way, at);
                return true;
            }
            if (way < 0) {
                way = makeRoom(line);
            }
            if (way < 0) {
                return false;
            }
            clock++;
            takenAt[way] = clock;
            abouts[way] = core;
            asks[way] = queue[at + Pool.KIND];
            due[way] = 0;
            if (asks[way] == GETS) {
                lend(way, core);
            } else {
                invite(way, core);
                if (due[way] == 0) {
                    giveAlone(way, core);
                }
            }
            return true;
        }

        private void takeBack(int way, int at) {
            int core = queue[at + Pool.FROM];
            if (way >= 0 && owners[way] == core) {
                System.arraycopy(queue, at + Pool.WORDS, words, way * LINE_WORDS, LINE_WORDS);
                altered[way] = true;
                owners[way] = NONE;
            }
            pool.send(BACK, HOME, core, queue[at + Pool.LINE], null, 0);
        }

        /** A way for a line that has none; NONE if one must be waited for. */
        private int makeRoom(int line) {
            int way = wayToFree(line);
            if (way < 0) {
                return NONE;
            }
            if (lines[way] != NONE && (owners[way] != NONE || sharers[way] != 0)) {
                abouts[way] = RECALL;
                due[way] = 0;
                recalls++;
                invite(way, NONE);
                return NONE;
            }
            if (lines[way] != NONE) {
                writeBack(way);
            }
            lines[way] = line;
            System.arraycopy(memory, line * LINE_WORDS, words, way * LINE_WORDS, LINE_WORDS);
            altered[way] = false;
            owners[way] = NONE;
            sharers[way] = 0;
            return way;
        }

        private int wayToFree(int line) {
            int first = (line & sets - 1) * ways;
            int oldest = NONE;
            for (int way = first; way < first + ways; way++) {
                if (lines[way] == NONE) {
                    return way;
                }
                if (abouts[way] == NONE && (oldest < 0 || takenAt[way] < takenAt[oldest])) {
                    oldest = way;
                }
            }
            return oldest;
        }

        private void writeBack(int way) {
            if (altered[way]) {
                System.arraycopy(words, way * LINE_WORDS, memory, lines[way] * LINE_WORDS, LINE_WORDS);
            }
        }

        /** Calls a line in from all that may have it but one core. */
        private void invite(int way, int spared) {
            for (int i = 0; i < MOST_CORES; i++) {
                boolean has = owners[way] == i || (sharers[way] >> i & 1) != 0;
                if (has && i != spared) {
                    pool.send(INV, HOME, i, lines[way], null, 0);
                    due[way]++;
                }
            }
        }

        private void lend(int way, int core) {
            if (owners[way] != NONE) {
                pool.send(DOWN, HOME, owners[way], lines[way], null, 0);
                due[way] = 1;
            } else if (sharers[way] == 0) {
                owners[way] = core;
                pool.send(GIVE_E, HOME, core, lines[way], words, way * LINE_WORDS);
            } else {
                giveShared(way, core);
            }
        }

        private void giveShared(int way, int core) {
            sharers[way] |= 1 << core;
            pool.send(GIVE_S, HOME, core, lines[way], words, way * LINE_WORDS);
        }

        private void giveAlone(int way, int core) {
            owners[way] = core;
            sharers[way] = 0;
            pool.send(GIVE_M, HOME, core, lines[way], words, way * LINE_WORDS);
        }

        /** True if a way has become free by it, so that what waits may go on. */
        private boolean acknowledge(int[] message) {
            int way = find(message[Pool.LINE]);
            if (way < 0 || due[way] == 0) {
                return false;
            }
            if (message[Pool.FILLED] == 1) {
                System.arraycopy(message, Pool.WORDS, words, way * LINE_WORDS, LINE_WORDS);
                altered[way] = true;
            }
            due[way]--;
            if (due[way] > 0) {
                return false;
            }
            if (abouts[way] == RECALL) {
                writeBack(way);
                lines[way] = NONE;
                abouts[way] = NONE;
                return true;
            }
            if (asks[way] == GETS) {
                sharers[way] |= 1 << owners[way];
                owners[way] = NONE;
                giveShared(way, abouts[way]);
            } else {
                giveAlone(way, abouts[way]);
            }
            return false;
        }
    }

    /** One core: what it has of its own, and how it goes on. */
    private static final class Core {
        private final int number;
        private final Pool pool;
        private final int[] registers = new int[32];
        private int place;
        private int cause;
        private final Stores stores = new Stores();
        final Cache cache = new Cache();
        final Trace history = new Trace();
        int shelfLine;
        /** The shelf's line was taken from it by the home; the shelf stays taken till BACK. */
        boolean shelfGone;
        final int[] shelfWords = new int[LINE_WORDS];
        private int request;
        private int misses;
        private int waits;
        private int greatestWaits;
        int changed;
        /** What reads() found. */
        private int got;

        Core(int number, Pool pool) {
            this.number = number;
            this.pool = pool;
            begin(0, 1, 1, 1);
        }

        private void begin(int start, int buffer, int sets, int ways) {
            Arrays.fill(registers, 0);
            place = start;
            cause = GOES_ON;
            stores.begin(buffer);
            cache.begin(sets, ways);
            history.noted = 0;
            shelfLine = NONE;
            shelfGone = false;
            request = NONE;
            misses = 0;
            waits = 0;
            greatestWaits = 0;
            changed = 0;
        }

        void growWaits() {
            if (cause == GOES_ON) {
                waits++;
                greatestWaits = Math.max(greatestWaits, waits);
            }
        }

        boolean tells(int what) {
            return what >= 0 && what <= 40 || what >= 100 && what < 100 + 3 * stores.count;
        }

        int tell(int what) {
            if (what >= 100) {
                return stores.get((what - 100) / 3, (what - 100) % 3);
            }
            switch (what) {
                case 32:
                    return place;
                case 33:
                    return cause;
                case 34:
                    return stores.count;
                case 35:
                    return history.noted;
                case 36:
                    return request;
                case 37:
                    return shelfLine;
                case 38:
                    return misses;
                case 39:
                    return waits;
                case 40:
                    return greatestWaits;
                default:
                    return registers[what & 31];
            }
        }

        int advance() {
            if (cause != GOES_ON) {
                return 0;
            }
            if ((place & 3) != 0) {
                cause = BY_PLACE;
                return 1;
            }
            if (!reads(place, 15)) {
                return 2;
            }
            int word = got;
            int a = registers[word >>> 15 & 31];
            int b = registers[word >>> 20 & 31];
            switch (word & 127) {
                case 0x37:
                    return reckoned(word, word & 0xfffff000);
                case 0x17:
                    return reckoned(word, place + (word & 0xfffff000));
                case 0x6f:
                    return jumped(word, place + Alu.jumpDistance(word));
                case 0x67:
                    return Alu.variant(word) == 0 ? jumped(word, a + (word >> 20) & -2) : stopped(word, BY_WORD);
                case 0x63:
                    return branched(word, a, b);
                case 0x03:
                    return loaded(word, a + (word >> 20) & ADDRESS_MASK);
                case 0x23:
                    return stored(word, a + Alu.storeDistance(word) & ADDRESS_MASK, b);
                case 0x13:
                    return Alu.knowsShift(word) ? reckoned(word, Alu.reckon(word, a, word >> 20)) : stopped(word, BY_WORD);
                case 0x33:
                    return Alu.knows(word) ? reckoned(word, Alu.reckon(word, a, b)) : stopped(word, BY_WORD);
                case 0x2f:
                    return Alu.knowsAtomic(word) ? swapped(word, a & ADDRESS_MASK, b) : stopped(word, BY_WORD);
                case 0x0f:
                    return fenced(word);
                default:
                    return stopped(word, word == 0x73 || word == 0x100073 ? BY_CALL : BY_WORD);
            }
        }

        /** The end of every instruction that retires; its trace needs the old place and the new register. */
        private int finish(int word, int d, int value, int address, int read, int put, int nextPlace) {
            if (d != 0) {
                registers[d] = value;
            }
            history.note(place, word, d, registers[d], address, read, put);
            place = nextPlace & ADDRESS_MASK;
            waits = 0;
            return 1;
        }

        private int stopped(int word, int why) {
            cause = why;
            return finish(word, 0, 0, NONE, 0, 0, place);
        }

        private int reckoned(int word, int value) {
            return finish(word, word >>> 7 & 31, value, NONE, 0, 0, place + 4);
        }

        private int jumped(int word, int target) {
            return finish(word, word >>> 7 & 31, place + 4, NONE, 0, 0, target);
        }

        private int branched(int word, int a, int b) {
            if (!Alu.knowsBranch(word)) {
                return stopped(word, BY_WORD);
            }
            int distance = Alu.branches(word, a, b) ? Alu.branchDistance(word) : 4;
            return finish(word, 0, 0, NONE, 0, 0, place + distance);
        }

        private int fenced(int word) {
            if (Alu.variant(word) != 0) {
                return stopped(word, BY_WORD);
            }
            return stores.count > 0 ? 5 : finish(word, 0, 0, NONE, 0, 0, place + 4);
        }

        private int loaded(int word, int address) {
            int variant = Alu.variant(word);
            if (variant == 3 || variant > 5) {
                return stopped(word, BY_WORD);
            }
            int size = 1 << (variant & 3);
            if ((address & size - 1) != 0) {
                return stopped(word, BY_ADDRESS);
            }
            int first = address & 3;
            if (!reads(address - first, (1 << size) - 1 << first)) {
                return 3;
            }
            int value = Alu.extend(got >>> 8 * first, variant);
            return finish(word, word >>> 7 & 31, value, address, value, 0, place + 4);
        }

        private int stored(int word, int address, int b) {
            int variant = Alu.variant(word);
            if (variant > 2) {
                return stopped(word, BY_WORD);
            }
            int size = 1 << variant;
            if ((address & size - 1) != 0) {
                return stopped(word, BY_ADDRESS);
            }
            if (stores.isFull()) {
                return 4;
            }
            int first = address & 3;
            int bytes = (1 << size) - 1;
            int put = b & BYTE_BITS[bytes];
            stores.add(address - first, bytes << first, put << 8 * first);
            return finish(word, 0, 0, address, 0, put, place + 4);
        }

        private int swapped(int word, int address, int b) {
            if ((address & 3) != 0) {
                return stopped(word, BY_ADDRESS);
            }
            if (stores.count > 0) {
                return 5;
            }
            int at = wordToChange(address);
            if (at < 0) {
                return 6;
            }
            int old = cache.words[at];
            int put = Alu.atomic(word, old, b);
            cache.words[at] = put;
            return finish(word, word >>> 7 & 31, old, address, old, put, place + 4);
        }

        /** A drain: the oldest store goes to the cache. */
        int settle() {
            if (stores.count == 0) {
                return 0;
            }
            int at = wordToChange(stores.get(0, Stores.ADDRESS));
            if (at < 0) {
                return 2;
            }
            int bits = BYTE_BITS[stores.get(0, Stores.BYTES) & 15];
            cache.words[at] = cache.words[at] & ~bits | stores.get(0, Stores.DATA);
            stores.removeOldest();
            return 1;
        }

        /** True with the word in got; false if it must be waited for. */
        private boolean reads(int address, int needed) {
            int word = 0;
            if ((needed & ~stores.bytesAt(address)) != 0) {
                int slot = cache.find(address >> 4);
                if (slot < 0) {
                    miss(address >> 4, GETS);
                    return false;
                }
                cache.use(slot);
                word = cache.words[wordOf(slot, address)];
            }
            got = stores.over(address, word);
            return true;
        }

        /** Where the word is in the cache, that now counts as changed; NONE if it must be waited for. */
        private int wordToChange(int address) {
            int slot = cache.find(address >> 4);
            if (slot < 0 || cache.states[slot] < ALONE) {
                miss(address >> 4, GETM);
                return NONE;
            }
            cache.use(slot);
            cache.states[slot] = CHANGED;
            changed++;
            return wordOf(slot, address);
        }

        private void miss(int line, int kind) {
            if (request != NONE || shelfLine == line) {
                return;
            }
            if (cache.find(line) < 0 && !makeRoom(line)) {
                return;
            }
            request = line;
            misses++;
            pool.send(kind, number, HOME, line, null, 0);
        }

        private boolean makeRoom(int line) {
            int slot = cache.slotFor(line);
            if (cache.states[slot] >= ALONE) {
                if (shelfLine != NONE) {
                    return false;
                }
                shelfLine = cache.lines[slot];
                shelfGone = false;
                System.arraycopy(cache.words, slot * LINE_WORDS, shelfWords, 0, LINE_WORDS);
                pool.send(PUT, number, HOME, shelfLine, shelfWords, 0);
            }
            cache.states[slot] = ABSENT;
            return true;
        }

        void receive(int[] message) {
            int line = message[Pool.LINE];
            switch (message[Pool.KIND]) {
                case INV:
                    answer(line, ABSENT);
                    break;
                case DOWN:
                    answer(line, SHARED);
                    break;
                case BACK:
                    shelfLine = NONE;
                    break;
                default:
                    cache.put(line, message[Pool.KIND] - GIVE_S + SHARED, message, Pool.WORDS);
                    request = NONE;
                    pool.send(DONE, number, HOME, line, null, 0);
                    break;
            }
        }

        /** INV and DOWN: what is still here alone goes with the answer; a state that stays is at most so high. */
        private void answer(int line, int most) {
            int slot = cache.find(line);
            boolean shelved = shelfLine == line;
            if (slot >= 0 && cache.states[slot] >= ALONE) {
                pool.send(ACK, number, HOME, line, cache.words, slot * LINE_WORDS);
            } else {
                pool.send(ACK, number, HOME, line, shelved && !shelfGone ? shelfWords : null, 0);
            }
            if (slot >= 0) {
                cache.states[slot] = Math.min(cache.states[slot], most);
            }
            if (shelved) {
                shelfGone = true;
            }
        }
    }

    /** A core's own cache. */
    private static final class Cache {
        final int[] lines = new int[MOST_SLOTS];
        final int[] states = new int[MOST_SLOTS];
        private final int[] usedAt = new int[MOST_SLOTS];
        final int[] words = new int[MOST_SLOTS * LINE_WORDS];
        private int sets;
        private int ways;
        private int clock;

        void begin(int sets, int ways) {
            this.sets = sets;
            this.ways = ways;
            clock = 0;
            Arrays.fill(states, ABSENT);
        }

        int find(int line) {
            int first = (line & sets - 1) * ways;
            for (int slot = first; slot < first + ways; slot++) {
                if (states[slot] != ABSENT && lines[slot] == line) {
                    return slot;
                }
            }
            return NONE;
        }

        /** The lowest free slot of a line's set, else the one that was used longest ago. */
        int slotFor(int line) {
            int first = (line & sets - 1) * ways;
            int oldest = first;
            for (int slot = first; slot < first + ways; slot++) {
                if (states[slot] == ABSENT) {
                    return slot;
                }
                if (usedAt[slot] < usedAt[oldest]) {
                    oldest = slot;
                }
            }
            return oldest;
        }

        void use(int slot) {
            clock++;
            usedAt[slot] = clock;
        }

        void put(int line, int state, int[] from, int index) {
            int there = find(line);
            int slot = there >= 0 ? there : slotFor(line);
            lines[slot] = line;
            states[slot] = state;
            System.arraycopy(from, index, words, slot * LINE_WORDS, LINE_WORDS);
            use(slot);
        }
    }

    /** A core's buffer of stores, the oldest first. */
    private static final class Stores {
        static final int ADDRESS = 0;
        static final int BYTES = 1;
        static final int DATA = 2;
        private static final int PARTS = 3;

        private final int[] rows = new int[MOST_STORES * PARTS];
        int count;
        private int limit;

        void begin(int limit) {
            this.limit = limit;
            count = 0;
        }

        boolean isFull() {
            return count >= limit;
        }

        void add(int address, int bytes, int data) {
            rows[count * PARTS + ADDRESS] = address;
            rows[count * PARTS + BYTES] = bytes;
            rows[count * PARTS + DATA] = data;
            count++;
        }

        void removeOldest() {
            count--;
            System.arraycopy(rows, PARTS, rows, 0, count * PARTS);
        }

        int get(int i, int part) {
            return rows[i * PARTS + part];
        }

        int bytesAt(int address) {
            int bytes = 0;
            for (int i = 0; i < count; i++) {
                if (get(i, ADDRESS) == address) {
                    bytes |= get(i, BYTES);
                }
            }
            return bytes;
        }

        /** A word as it is with the stores laid over it. */
        int over(int address, int word) {
            int sum = word;
            for (int i = 0; i < count; i++) {
                if (get(i, ADDRESS) == address) {
                    sum = sum & ~BYTE_BITS[get(i, BYTES) & 15] | get(i, DATA);
                }
            }
            return sum;
        }
    }

    /** The last instructions of a core that retired. */
    private static final class Trace {
        static final int PARTS = 8;
        private static final int KEPT = 32;

        private final int[] rows = new int[KEPT * PARTS];
        /** All that ever were noted since the core began. */
        int noted;

        void note(int place, int word, int d, int became, int address, int read, int put) {
            int at = noted % KEPT * PARTS;
            rows[at] = place;
            rows[at + 1] = word;
            rows[at + 2] = d;
            rows[at + 3] = became;
            rows[at + 4] = address;
            rows[at + 5] = read;
            rows[at + 6] = put;
            rows[at + 7] = noted;
            noted++;
        }

        boolean has(int k) {
            return k >= 0 && k < KEPT && k < noted;
        }

        int get(int k, int part) {
            return rows[(noted - 1 - k) % KEPT * PARTS + part];
        }
    }

    /** What words mean, without any state. */
    private static final class Alu {
        private static final int OTHER = 0x20;

        static int variant(int word) {
            return word >>> 12 & 7;
        }

        static int jumpDistance(int word) {
            return (word >> 31) << 20 | word & 0xff000 | (word >>> 20 & 1) << 11 | (word >>> 21 & 1023) << 1;
        }

        static int branchDistance(int word) {
            return (word >> 31) << 12 | (word >>> 7 & 1) << 11 | (word >>> 25 & 63) << 5 | (word >>> 8 & 15) << 1;
        }

        static int storeDistance(int word) {
            return (word >> 25) << 5 | word >>> 7 & 31;
        }

        static boolean knows(int word) {
            int seven = word >>> 25;
            int variant = variant(word);
            return seven == 0 || seven == OTHER && (variant == 0 || variant == 5);
        }

        /** With a number only the shifts have bits that must be as they are. */
        static boolean knowsShift(int word) {
            int seven = word >>> 25;
            int variant = variant(word);
            if (variant == 1) {
                return seven == 0;
            }
            return variant != 5 || seven == 0 || seven == OTHER;
        }

        static boolean knowsBranch(int word) {
            int variant = variant(word);
            return variant != 2 && variant != 3;
        }

        static boolean knowsAtomic(int word) {
            if (variant(word) != 2) {
                return false;
            }
            int five = word >>> 27;
            return five == 1 || (five & 3) == 0;
        }

        /** Both forms, with a register and with a number as y; addi alone has no other form. */
        static int reckon(int word, int x, int y) {
            boolean other = word >>> 25 == OTHER;
            switch (variant(word)) {
                case 0:
                    return other && (word & 127) == 0x33 ? x - y : x + y;
                case 1:
                    return x << (y & 31);
                case 2:
                    return x < y ? 1 : 0;
                case 3:
                    return isBelow(x, y) ? 1 : 0;
                case 4:
                    return x ^ y;
                case 5:
                    return other ? x >> (y & 31) : x >>> (y & 31);
                case 6:
                    return x | y;
                default:
                    return x & y;
            }
        }

        /** Less without a sign: with the highest bit turned over the order is that of ints. */
        private static boolean isBelow(int x, int y) {
            return (x ^ 0x80000000) < (y ^ 0x80000000);
        }

        static boolean branches(int word, int a, int b) {
            switch (variant(word)) {
                case 0:
                    return a == b;
                case 1:
                    return a != b;
                case 4:
                    return a < b;
                case 5:
                    return a >= b;
                case 6:
                    return isBelow(a, b);
                default:
                    return !isBelow(a, b);
            }
        }

        static int extend(int value, int variant) {
            switch (variant) {
                case 0:
                    return value << 24 >> 24;
                case 1:
                    return value << 16 >> 16;
                case 4:
                    return value & 0xff;
                case 5:
                    return value & 0xffff;
                default:
                    return value;
            }
        }

        static int atomic(int word, int old, int b) {
            switch (word >>> 27) {
                case 0:
                    return old + b;
                case 1:
                    return b;
                case 4:
                    return old ^ b;
                case 8:
                    return old | b;
                case 12:
                    return old & b;
                case 16:
                    return Math.min(old, b);
                case 20:
                    return Math.max(old, b);
                case 24:
                    return isBelow(old, b) ? old : b;
                default:
                    return isBelow(old, b) ? b : old;
            }
        }
    }
}

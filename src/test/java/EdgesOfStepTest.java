import java.util.NoSuchElementException;

/** Promise 6 at its boundaries: numbers that wrap, places, addresses, what is no instruction, what waits and what stops. */
public final class EdgesOfStepTest {
    private static final int MOST = Integer.MAX_VALUE;
    private static final int LEAST = Integer.MIN_VALUE;
    private static final int[] EXTREMES = {LEAST, LEAST + 1, -1, 0, 1, MOST - 1, MOST};

    public static void main(String[] args) {
        noSuchCore();
        sumsWrap();
        shiftsByMoreThanThirtyOne();
        numbersInTheWord();
        comparisons();
        branches();
        atomics();
        registerZero();
        placesWrap();
        linksDoNotWrap();
        jumpsClearTheLowestBit();
        addressesWrap();
        bytesOfAWord();
        multiplesOfTheSize();
        addressAheadOfWaiting();
        wordsThatAreNone();
        wordAheadOfWaiting();
        fences();
        stopsByPlace();
        stoppedStays();
        stopsWithStores();
        waitingChangesNothing();
        waitingIsDoneAnew();
        bytesFromTheBuffer();
        fetchFromTheBuffer();
        Check.end();
    }

    private static CoreHouse done(String text) {
        CoreHouse house = Check.house(text, 1, 4, 8, 4, 32, 4);
        house.run(200);
        Check.yes("it has stopped: " + text, house.core(0, 33) != 0);
        return house;
    }

    private static void becomes(String text, int due) {
        CoreHouse house = done(text + "ecall;");
        Check.same(text, house.core(0, 3), due);
        Check.same("cause of " + text, house.core(0, 33), 1);
    }

    private static String with(int a, int b) {
        return "li x1," + a + ";li x2," + b + ";";
    }

    private static void noSuchCore() {
        for (int cores : new int[] {1, 2, 15, 16}) {
            CoreHouse house = Check.house("nop;", cores, 1, 1, 1, 2, 8);
            for (int core : new int[] {LEAST, -1, cores, cores + 1, 16, 17, MOST}) {
                Check.fails("step(" + core + ")", IndexOutOfBoundsException.class, () -> house.step(core));
                Check.fails("drain(" + core + ")", IndexOutOfBoundsException.class, () -> house.drain(core));
                State.stays("step(" + core + ")", house, () -> house.step(core));
            }
            Check.same("the first core", house.step(0), 2);
            Check.same("the last core", house.step(cores - 1), 2);
            Check.same("the last core", house.drain(cores - 1), 0);
        }
    }

    private static void sumsWrap() {
        for (int a : EXTREMES) {
            for (int b : EXTREMES) {
                becomes(with(a, b) + "add x3,x1,x2;", a + b);
                becomes(with(a, b) + "sub x3,x1,x2;", a - b);
            }
        }
        becomes("li x1,0x7fffffff;addi x3,x1,2047;", 0x800007fe);
        becomes("li x1,0x80000000;addi x3,x1,-2048;", 0x7ffff800);
        becomes("li x1,0x80000000;neg x3,x1;", LEAST);
        becomes("li x3,0x80000000;add x3,x3,x3;", 0);
        becomes("nop;auipc x3,0xfffff;", 4 - 4096);
        becomes("nop;auipc x3,0x7ffff;", 0x7ffff004);
    }

    private static void shiftsByMoreThanThirtyOne() {
        int a = 0x80000001;
        for (int by : new int[] {-33, -32, -31, -1, 0, 1, 30, 31, 32, 33, 63, 64, LEAST, MOST}) {
            int low = by & 31;
            becomes(with(a, by) + "sll x3,x1,x2;", a << low);
            becomes(with(a, by) + "srl x3,x1,x2;", a >>> low);
            becomes(with(a, by) + "sra x3,x1,x2;", a >> low);
        }
        for (int by : new int[] {0, 1, 30, 31}) {
            becomes(with(a, 0) + "slli x3,x1," + by + ";", a << by);
            becomes(with(a, 0) + "srli x3,x1," + by + ";", a >>> by);
            becomes(with(a, 0) + "srai x3,x1," + by + ";", a >> by);
            becomes(with(MOST, 0) + "srai x3,x1," + by + ";", MOST >> by);
        }
    }

    private static void numbersInTheWord() {
        int[] numbers = {-2048, -2047, -1, 0, 1, 2046, 2047};
        for (int n : numbers) {
            for (int a : new int[] {LEAST, -2048, -1, 0, 2047, MOST}) {
                String li = "li x1," + a + ";";
                becomes(li + "addi x3,x1," + n + ";", a + n);
                becomes(li + "slti x3,x1," + n + ";", a < n ? 1 : 0);
                becomes(li + "sltiu x3,x1," + n + ";", Integer.compareUnsigned(a, n) < 0 ? 1 : 0);
                becomes(li + "xori x3,x1," + n + ";", a ^ n);
                becomes(li + "ori x3,x1," + n + ";", a | n);
                becomes(li + "andi x3,x1," + n + ";", a & n);
            }
        }
        becomes("lui x3,0;", 0);
        becomes("lui x3,1;", 4096);
        becomes("lui x3,0x80000;", LEAST);
        becomes("lui x3,0xfffff;", -4096);
    }

    private static void comparisons() {
        for (int a : EXTREMES) {
            for (int b : EXTREMES) {
                becomes(with(a, b) + "slt x3,x1,x2;", a < b ? 1 : 0);
                becomes(with(a, b) + "sltu x3,x1,x2;", Integer.compareUnsigned(a, b) < 0 ? 1 : 0);
            }
        }
    }

    private static void branches() {
        String[] words = {"beq", "bne", "blt", "bge", "bltu", "bgeu"};
        for (int a : EXTREMES) {
            for (int b : EXTREMES) {
                int unsigned = Integer.compareUnsigned(a, b);
                boolean[] due = {a == b, a != b, a < b, a >= b, unsigned < 0, unsigned >= 0};
                for (int i = 0; i < words.length; i++) {
                    becomes(with(a, b) + "li x3,1;" + words[i] + " x1,x2,a;li x3,0;a:", due[i] ? 1 : 0);
                }
            }
        }
    }

    private static int atomic(String word, int old, int b) {
        switch (word) {
            case "amoswap":
                return b;
            case "amoadd":
                return old + b;
            case "amoxor":
                return old ^ b;
            case "amoand":
                return old & b;
            case "amoor":
                return old | b;
            case "amomin":
                return Math.min(old, b);
            case "amomax":
                return Math.max(old, b);
            case "amominu":
                return Integer.compareUnsigned(old, b) < 0 ? old : b;
            default:
                return Integer.compareUnsigned(old, b) < 0 ? b : old;
        }
    }

    private static void atomics() {
        String[] words = {"amoswap", "amoadd", "amoxor", "amoand", "amoor", "amomin", "amomax", "amominu", "amomaxu"};
        for (String word : words) {
            for (int old : EXTREMES) {
                for (int b : EXTREMES) {
                    CoreHouse house = done("li x1,64;li x2," + b + ";" + word + " x3,x2,(x1);ecall;org 64;word " + old + ";");
                    Check.same(word + " d", house.core(0, 3), old);
                    Check.same(word + " of " + old + " and " + b, house.word(64), atomic(word, old, b));
                }
            }
        }
        // The two lowest bits of funct7 may be anything.
        for (int low = 0; low < 4; low++) {
            int amoadd = 0x0020a1af | low << 25;
            CoreHouse house = done("li x1,64;li x2,5;word " + amoadd + ";ecall;org 64;word 3;");
            Check.same("d with bits " + low, house.core(0, 3), 3);
            Check.same("word with bits " + low, house.word(64), 8);
        }
    }

    private static void registerZero() {
        String[] texts = {"li x0,5;", "li x0,5000;", "lui x0,5;", "auipc x0,5;", "jal x0,4;", "jalr x0,0(x1);", "add x0,x1,x1;",
            "lw x0,64(x0);", "lb x0,64(x0);", "amoadd x0,x1,(x0);", "addi x0,x0,1;"};
        for (String text : texts) {
            CoreHouse house = Check.house("li x1,8;" + text + "mv x2,x0;ecall;org 64;word 77;", 1, 4, 8, 4, 32, 4);
            house.run(20);
            Check.same("x0 behind " + text, house.core(0, 0), 0);
            Check.same("x2 behind " + text, house.core(0, 2), 0);
        }
        becomes("addi x0,x0,7;add x3,x0,x0;", 0);
    }

    /** The place behind one instruction at a place. */
    private static int placeBehind(int place, String text) {
        CoreHouse house = Check.house("org " + place + ";core 0;" + text, 1, 1, 1, 1, 1, 1);
        Check.retire(house, 0, 1);
        Check.same("cause", house.core(0, 33), 0);
        return house.core(0, 32);
    }

    private static void placesWrap() {
        Check.same("nop at 8184", placeBehind(8184, "nop;"), 8188);
        Check.same("nop at 8188", placeBehind(8188, "nop;"), 0);
        Check.same("a branch that is not taken at 8188", placeBehind(8188, "bne x0,x0,-8;"), 0);
        Check.same("a branch by 4 at 8188", placeBehind(8188, "beq x0,x0,4;"), 0);
        Check.same("a branch by 4094 at 8188", placeBehind(8188, "beq x0,x0,4094;"), 4090);
        Check.same("a branch by -4 at 0", placeBehind(0, "beq x0,x0,-4;"), 8188);
        Check.same("a branch by -4096 at 4092", placeBehind(4092, "beq x0,x0,-4096;"), 8188);
        Check.same("a branch by -4096 at 4096", placeBehind(4096, "beq x0,x0,-4096;"), 0);
        Check.same("a branch by 0", placeBehind(100, "beq x0,x0,0;"), 100);
        Check.same("a jump by -4 at 0", placeBehind(0, "j -4;"), 8188);
        Check.same("a jump by 8188 at 4", placeBehind(4, "j 8188;"), 0);
        Check.same("a jump by 8184 at 4", placeBehind(4, "j 8184;"), 8188);
        Check.same("a jump by 1048574", placeBehind(0, "j 1048574;"), 8190);
        Check.same("a jump by -1048576", placeBehind(4, "j -1048576;"), 4);
        Check.same("jalr by -4", placeBehind(0, "jalr x1,-4(x0);"), 8188);
        Check.same("auipc at 8188", placeBehind(8188, "auipc x1,1;"), 0);
        Check.same("fence at 8188", placeBehind(8188, "fence;"), 0);
    }

    private static void linksDoNotWrap() {
        int[] places = {0, 4, 4096, 8180, 8184, 8188};
        String[] texts = {"jal x1,8;", "jalr x1,0(x0);", "auipc x1,0;", "auipc x1,1;", "auipc x1,0xfffff;"};
        for (int place : places) {
            int[] due = {place + 4, place + 4, place, place + 4096, place - 4096};
            for (int i = 0; i < texts.length; i++) {
                CoreHouse house = Check.house("org " + place + ";core 0;" + texts[i], 1, 1, 1, 1, 1, 1);
                Check.retire(house, 0, 1);
                Check.same(texts[i] + " at " + place, house.core(0, 1), due[i]);
                Check.same("its trace", house.trace(0, 0, 3), due[i]);
            }
        }
    }

    private static void jumpsClearTheLowestBit() {
        int[] targets = {0, 1, 2, 3, 4, 5, 8191, 8192, 8193, 8195, 16385, -1, -2, -3, -4, MOST, LEAST, LEAST + 1};
        for (int target : targets) {
            CoreHouse house = Check.house("li x1," + target + ";jalr x2,0(x1);", 1, 1, 1, 1, 1, 1);
            Check.retire(house, 0, target >= -2048 && target <= 2047 ? 2 : 3);
            Check.same("place of " + target, house.core(0, 32), (target & -2) & 8191);
        }
        // The sum wraps, then the bit goes; the bits of both are not cleared one by one.
        CoreHouse sum = Check.house("li x1,0x7fffffff;jalr x2,9(x1);", 1, 1, 1, 1, 1, 1);
        Check.retire(sum, 0, 3);
        Check.same("0x7fffffff + 9", sum.core(0, 32), 8);
        CoreHouse odd = Check.house("li x1,7;jalr x1,1(x1);", 1, 1, 1, 1, 1, 1);
        Check.retire(odd, 0, 2);
        Check.same("7 + 1", odd.core(0, 32), 8);
        Check.same("d, where d is a", odd.core(0, 1), 8);
    }

    private static void addressesWrap() {
        String data = "org 0;j go;word 44;org 8188;word 0x88776655;org 64;go:";
        becomes(data + "lw x3,-4(x0);", 0x88776655);
        becomes(data + "li x1,8192;lw x3,4(x1);", 44);
        becomes(data + "li x1,8192;lw x3,-4(x1);", 0x88776655);
        becomes(data + "li x1,-8192;lw x3,4(x1);", 44);
        becomes(data + "li x1,0x7ffffffc;lw x3,8(x1);", 44);
        becomes(data + "li x1,0x80000000;lw x3,-4(x1);", 0x88776655);
        becomes(data + "lb x3,-1(x0);", 0xffffff88);
        becomes(data + "lbu x3,-4(x0);", 0x55);
        becomes(data + "lhu x3,-2(x0);", 0x8877);
        becomes(data + "li x1,16388;amoadd x3,x0,(x1);", 44);
        CoreHouse store = done(data + "li x1,8192;sw x1,4(x1);sb x1,-1(x0);ecall;");
        Check.same("stored at 4", store.word(4), 8192);
        Check.same("stored at 8191", store.word(8188), 0x00776655);
        Check.same("its trace", store.trace(0, 1, 4), 8191);
        Check.same("its trace", store.trace(0, 2, 4), 4);
        CoreHouse atomic = done(data + "li x1,-4;amoswap x3,x1,(x1);ecall;");
        Check.same("swapped at 8188", atomic.word(8188), -4);
        Check.same("its trace", atomic.trace(0, 1, 4), 8188);
    }

    private static void bytesOfAWord() {
        String data = "j go;org 64;d:word 0x80ff7f01;go:";
        int[] bytes = {0x01, 0x7f, 0xff, 0x80};
        for (int i = 0; i < 4; i++) {
            becomes(data + "lb x3," + (64 + i) + "(x0);", (byte) bytes[i]);
            becomes(data + "lbu x3," + (64 + i) + "(x0);", bytes[i]);
            int cleared = 0x80ff7f01 & ~(0xff << 8 * i);
            becomes(data + "sb x0," + (64 + i) + "(x0);lw x3,64(x0);", cleared);
            becomes(data + "sb x0," + (64 + i) + "(x0);fence;lw x3,64(x0);", cleared);
        }
        becomes(data + "lh x3,64(x0);", 0x7f01);
        becomes(data + "lh x3,66(x0);", 0xffff80ff);
        becomes(data + "lhu x3,66(x0);", 0x80ff);
        becomes(data + "sh x0,64(x0);fence;lw x3,64(x0);", 0x80ff0000);
        becomes(data + "sh x0,66(x0);fence;lw x3,64(x0);", 0x7f01);
        // Only b's lowest bytes go.
        becomes(data + "li x1,0x12345678;sb x1,66(x0);fence;lw x3,64(x0);", 0x80787f01);
        becomes(data + "li x1,0x12345678;sh x1,66(x0);fence;lw x3,64(x0);", 0x56787f01);
    }

    private static void multiplesOfTheSize() {
        String[] words = {"lb", "lbu", "sb", "lh", "lhu", "sh", "lw", "sw"};
        for (int i = 0; i < words.length; i++) {
            int size = i < 3 ? 1 : i < 6 ? 2 : 4;
            for (int address : new int[] {64, 65, 66, 67, 8188, 8189, 8190, 8191}) {
                String text = "li x2," + address + ";" + words[i] + " x3,0(x2);";
                CoreHouse house = Check.house(text, 1, 1, 1, 4, 1, 8);
                Check.retire(house, 0, address < 100 ? 2 : 3);
                boolean due = address % size == 0;
                Check.same("cause of " + text, house.core(0, 33), due ? 0 : 4);
                Check.same("its address", house.trace(0, 0, 4), due ? address : CoreHouse.NONE);
                Check.same("its word", house.trace(0, 0, 1), house.word(address < 100 ? 4 : 8));
            }
        }
        for (int address = 64; address < 69; address++) {
            CoreHouse house = Check.house("li x2," + address + ";amoadd x3,x2,(x2);", 1, 1, 1, 4, 1, 8);
            Check.retire(house, 0, 2);
            Check.same("cause of an atomic one at " + address, house.core(0, 33), address % 4 == 0 ? 0 : 4);
        }
    }

    private static void addressAheadOfWaiting() {
        String[] texts = {"lw x3,65(x0);", "lh x3,65(x0);", "li x1,66;amoadd x3,x3,(x1);"};
        for (String text : texts) {
            CoreHouse house = Check.house(text, 1, 1, 1, 1, 1, 1);
            Check.retire(house, 0, text.startsWith("li") ? 2 : 1);
            Check.same("cause of " + text, house.core(0, 33), 4);
            Check.same("nothing was asked for but the text", house.core(0, 38), 1);
        }
        CoreHouse full = Check.house("sw x0,64(x0);sh x0,65(x0);", 1, 1, 1, 1, 1, 1);
        Check.retire(full, 0, 1);
        Check.same("ahead of 4", full.step(0), 1);
        Check.same("cause", full.core(0, 33), 4);
        Check.same("the store is still there", full.core(0, 34), 1);
        CoreHouse busy = Check.house("li x1,65;sw x0,64(x0);amoadd x0,x0,(x1);", 1, 2, 1, 1, 1, 1);
        Check.retire(busy, 0, 2);
        Check.same("ahead of 5", busy.step(0), 1);
        Check.same("cause", busy.core(0, 33), 4);
        Check.same("place", busy.core(0, 32), 8);
        Check.same("retired", busy.core(0, 35), 3);
    }

    private static int causeOf(int word) {
        CoreHouse house = Check.house("li x2,64;li x3,64;word " + word + ";", 1, 1, 1, 4, 1, 8);
        Check.retire(house, 0, 3);
        return house.core(0, 33);
    }

    /** Each field that tells instructions apart, with all that it can be. */
    private static void wordsThatAreNone() {
        for (int f3 = 0; f3 < 8; f3++) {
            int v = f3 << 12;
            Check.same("load " + f3, causeOf(0x10003 | v), f3 == 3 || f3 > 5 ? 2 : 0);
            Check.same("store " + f3, causeOf(0x10023 | v), f3 > 2 ? 2 : 0);
            Check.same("branch " + f3, causeOf(0x310463 | v), f3 == 2 || f3 == 3 ? 2 : 0);
            Check.same("jalr " + f3, causeOf(0x10067 | v), f3 != 0 ? 2 : 0);
            Check.same("fence " + f3, causeOf(0x0f | v), f3 != 0 ? 2 : 0);
            Check.same("atomic " + f3, causeOf(0x31002f | v), f3 != 2 ? 2 : 0);
            for (int f7 : new int[] {0, 1, 2, 16, 31, 32, 33, 48, 63, 64, 96, 127}) {
                boolean other = f7 == 32 && (f3 == 0 || f3 == 5);
                Check.same("op " + f3 + ", " + f7, causeOf(0x310033 | v | f7 << 25), f7 == 0 || other ? 0 : 2);
                boolean shift = f3 == 1 && f7 != 0 || f3 == 5 && f7 != 0 && f7 != 32;
                Check.same("op with a number " + f3 + ", " + f7, causeOf(0x310013 | v | f7 << 25), shift ? 2 : 0);
            }
        }
        for (int f5 = 0; f5 < 32; f5++) {
            boolean known = f5 == 1 || f5 % 4 == 0;
            Check.same("atomic " + f5, causeOf(0x3121af | f5 << 27), known ? 0 : 2);
            Check.same("atomic " + f5 + " with bits", causeOf(0x063121af | f5 << 27), known ? 0 : 2);
        }
        for (int opcode = 0; opcode < 128; opcode++) {
            boolean known = opcode == 0x37 || opcode == 0x17 || opcode == 0x6f || opcode == 0x67 || opcode == 0x63 || opcode == 0x03
                || opcode == 0x23 || opcode == 0x13 || opcode == 0x33 || opcode == 0x0f;
            Check.same("opcode " + opcode, causeOf(opcode), known ? 0 : opcode == 0x73 ? 1 : 2);
        }
        for (int word : new int[] {0x73, 0x100073}) {
            Check.same("ecall, ebreak", causeOf(word), 1);
            for (int bit = 7; bit < 32; bit++) {
                boolean call = (word ^ 1 << bit) == 0x73 || (word ^ 1 << bit) == 0x100073;
                Check.same("with bit " + bit, causeOf(word ^ 1 << bit), call ? 1 : 2);
            }
        }
    }

    /** What is no instruction stops the core even where an instruction like it would wait. */
    private static void wordAheadOfWaiting() {
        String[] words = {"0x0000100f", "0x1000202f", "0x0000302f", "0x00003023", "0x00003003"};
        for (String word : words) {
            CoreHouse house = Check.house("sw x0,64(x0);word " + word + ";", 1, 1, 1, 1, 1, 1);
            Check.retire(house, 0, 1);
            Check.same("step of " + word, house.step(0), 1);
            Check.same("cause of " + word, house.core(0, 33), 2);
            Check.same("place", house.core(0, 32), 4);
            Check.same("it retired", house.core(0, 35), 2);
        }
    }

    private static void fences() {
        for (int stores = 0; stores <= 3; stores++) {
            CoreHouse house = Check.house("nop;" + "sw x0,64(x0);".repeat(stores) + "fence;", 1, 3, 1, 4, 1, 8);
            Check.retire(house, 0, 1 + stores);
            if (stores > 0) {
                house.step(0);
                Check.deliverAll(house);
                house.drain(0);
                Check.deliverAll(house);
            } else {
                Check.same("a fence with none", house.step(0), 1);
            }
            for (int left = stores; left > 0; left--) {
                Check.same("a fence with " + left, house.step(0), 5);
                Check.same("nothing retires", house.core(0, 35), 1 + stores);
                Check.same("drain", house.drain(0), 1);
            }
            if (stores > 0) {
                Check.same("a fence with none left", house.step(0), 1);
            }
            Check.same("retired", house.core(0, 35), 2 + stores);
        }
    }

    private static void stopsByPlace() {
        for (int place : new int[] {2, 6, 4094, 8186, 8190}) {
            CoreHouse house = Check.house("j " + place + ";", 1, 1, 1, 1, 1, 1);
            Check.retire(house, 0, 1);
            Check.same("place", house.core(0, 32), place);
            Check.same("still going on", house.core(0, 33), 0);
            Check.same("step", house.step(0), 1);
            Check.same("cause", house.core(0, 33), 3);
            Check.same("place stays", house.core(0, 32), place);
            Check.same("nothing retires", house.core(0, 35), 1);
            Check.same("nothing retires", house.total(2), 1);
            Check.same("nothing is sent", house.core(0, 38), 1);
            Check.fails("no trace of it", NoSuchElementException.class, () -> house.trace(0, 1, 0));
            Check.same("no more", house.step(0), 0);
        }
    }

    private static void stoppedStays() {
        String[] texts = {"ecall;", "ebreak;", "word 0;", "j 2;", "lw x1,1(x0);"};
        int[] causes = {1, 1, 2, 3, 4};
        for (int i = 0; i < texts.length; i++) {
            CoreHouse house = Check.house(texts[i], 1, 1, 1, 1, 1, 1);
            Check.retire(house, 0, causes[i] == 3 ? 2 : 1);
            Check.same("cause", house.core(0, 33), causes[i]);
            Check.same("place", house.core(0, 32), causes[i] == 3 ? 2 : 0);
            Check.same("retired", house.core(0, 35), 1);
            State.stays("a step of one that has stopped", house, () -> house.step(0));
            Check.same("step", house.step(0), 0);
            Check.same("run", house.run(1), 0);
        }
    }

    private static void stopsWithStores() {
        CoreHouse house = Check.house("sw x0,64(x0);ecall;", 1, 1, 1, 4, 1, 8);
        Check.retire(house, 0, 2);
        Check.same("ecall does not wait for stores", house.core(0, 33), 1);
        Check.same("the store", house.core(0, 34), 1);
        Check.same("drain of a core that has stopped", house.drain(0), 2);
        Check.deliverAll(house);
        Check.same("drain of a core that has stopped", house.drain(0), 1);
        Check.same("empty", house.drain(0), 0);
    }

    /** The core's registers, place and so on are the same; only its request may have come. */
    private static void waits(String name, CoreHouse house, int due) {
        int[] before = new int[36];
        for (int what = 0; what < before.length; what++) {
            before[what] = house.core(0, what);
        }
        for (int times = 0; times < 3; times++) {
            Check.same(name, house.step(0), due);
            for (int what = 0; what < before.length; what++) {
                Check.same(name + ", " + what, house.core(0, what), before[what]);
            }
        }
        Check.yes("asks at most once", house.total(1) <= 1);
    }

    private static void waitingChangesNothing() {
        String li = "li x1,64;li x2,7;";
        CoreHouse fetch = Check.house(li, 1, 1, 1, 4, 1, 8);
        waits("a fetch", fetch, 2);
        CoreHouse load = Check.house(li + "lw x2,0(x1);", 1, 1, 1, 4, 1, 8);
        Check.retire(load, 0, 2);
        waits("a load", load, 3);
        CoreHouse store = Check.house(li + "sw x2,0(x1);sw x2,0(x1);", 1, 1, 1, 4, 1, 8);
        Check.retire(store, 0, 3);
        waits("a store", store, 4);
        State.stays("a store that waits", store, () -> store.step(0));
        CoreHouse fence = Check.house(li + "sw x2,0(x1);fence;", 1, 1, 1, 4, 1, 8);
        Check.retire(fence, 0, 3);
        waits("a fence", fence, 5);
        State.stays("a fence that waits", fence, () -> fence.step(0));
        CoreHouse busy = Check.house(li + "sw x2,0(x1);amoadd x2,x2,(x1);", 1, 1, 1, 4, 1, 8);
        Check.retire(busy, 0, 3);
        waits("an atomic one behind a store", busy, 5);
        State.stays("an atomic one that waits", busy, () -> busy.step(0));
        CoreHouse atomic = Check.house(li + "amoadd x2,x2,(x1);", 1, 1, 1, 4, 1, 8);
        Check.retire(atomic, 0, 2);
        waits("an atomic one", atomic, 6);
        Check.same("no word was changed", atomic.total(4), 0);
        Check.deliverAll(atomic);
        Check.same("then it is done", atomic.step(0), 1);
    }

    /** Core 0 waits with a load; meanwhile core 1 puts another instruction in its place. */
    private static void waitingIsDoneAnew() {
        int addi = 0x00500093;
        CoreHouse house = Check.house("lw x1,64(x0);ecall;org 32;core 1;li x2," + addi + ";sw x2,0(x0);org 64;word 9;",
            2, 1, 1, 4, 1, 8);
        Check.same("fetch", house.step(0), 2);
        Check.deliverAll(house);
        Check.same("the load waits", house.step(0), 3);
        Check.retire(house, 1, 3);
        Check.same("drain", house.drain(1), 2);
        Check.deliverAll(house);
        Check.same("drain", house.drain(1), 1);
        Check.retire(house, 0, 1);
        Check.same("the new instruction", house.core(0, 1), 5);
        Check.same("its word", house.trace(0, 0, 1), addi);
    }

    /** For every choice of bytes in the buffer and every load: what it waits for, and what it gets. */
    private static void bytesFromTheBuffer() {
        String[] words = {"lbu", "lbu", "lbu", "lbu", "lhu", "lhu", "lw"};
        int[] firsts = {0, 1, 2, 3, 0, 2, 0};
        int[] needs = {1, 2, 4, 8, 3, 12, 15};
        for (int mask = 0; mask < 16; mask++) {
            for (int i = 0; i < words.length; i++) {
                StringBuilder text = new StringBuilder("li x1,0x11;");
                int stores = 0;
                int whole = 0xd4c3b2a1;
                for (int b = 0; b < 4; b++) {
                    if ((mask >> b & 1) != 0) {
                        text.append("sb x1,").append(64 + b).append("(x0);");
                        whole = whole & ~(0xff << 8 * b) | 0x11 << 8 * b;
                        stores++;
                    }
                }
                text.append(words[i]).append(" x3,").append(64 + firsts[i]).append("(x0);org 64;word 0xd4c3b2a1;");
                CoreHouse house = Check.house(text.toString(), 1, 4, 1, 4, 1, 8);
                Check.retire(house, 0, 1 + stores);
                house.step(0);
                Check.deliverAll(house);
                int due = (whole >>> 8 * firsts[i]) & (i < 4 ? 0xff : i < 6 ? 0xffff : -1);
                boolean asked = (needs[i] & ~mask) != 0;
                if (house.core(0, 35) == 1 + stores) {
                    Check.retire(house, 0, 1);
                }
                Check.same(text.toString(), house.core(0, 3), due);
                Check.same("asked for line 4: " + text, house.cached(0, 4), asked ? 2 : 0);
            }
        }
    }

    private static void fetchFromTheBuffer() {
        // All four bytes of the next place are in the buffer: its line is not asked for.
        CoreHouse whole = Check.house("li x1,0x73;nop;sw x1,16(x0);nop;", 1, 4, 1, 2, 1, 8);
        Check.retire(whole, 0, 4);
        Check.same("fetched from the buffer", whole.step(0), 1);
        Check.same("cause", whole.core(0, 33), 1);
        Check.same("line 1 was not asked for", whole.core(0, 38), 1);
        // Three are not enough.
        CoreHouse part = Check.house("li x1,0;sb x1,17(x0);sh x1,18(x0);nop;word 0x13;", 1, 4, 1, 2, 1, 8);
        Check.retire(part, 0, 4);
        Check.same("waits for the fourth", part.step(0), 2);
        Check.deliverAll(part);
        Check.same("now it is there", part.step(0), 1);
        Check.same("its word", part.trace(0, 0, 1), 0x13);
        // The latest store of each byte counts.
        CoreHouse latest = Check.house("li x1,0x73;sw x0,16(x0);sw x1,16(x0);nop;", 1, 4, 1, 2, 1, 8);
        Check.retire(latest, 0, 5);
        Check.same("ecall", latest.core(0, 33), 1);
    }
}

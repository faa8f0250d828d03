/** Promise 6: step; what instructions do, how they wait, how a core stops. */
public final class StepTest {
    public static void main(String[] args) {
        noSuchCore();
        reckoning();
        jumps();
        branches();
        loadsAndStores();
        atomics();
        stopsByCall();
        stopsByWord();
        stopsByPlace();
        stopsByAddress();
        answers();
        readsItsOwnStores();
        Check.end();
    }

    private static void noSuchCore() {
        CoreHouse house = Check.house("nop;", 2, 1, 1, 1, 2, 1);
        Check.fails("step(-1)", IndexOutOfBoundsException.class, () -> house.step(-1));
        Check.fails("step(2)", IndexOutOfBoundsException.class, () -> house.step(2));
        Check.fails("step(15)", IndexOutOfBoundsException.class, () -> house.step(15));
        Check.same("step(1)", house.step(1), 2);
    }

    /** A core with room for all: the text is done until it stops. */
    private static CoreHouse done(String text) {
        CoreHouse house = Check.house(text, 1, 4, 8, 4, 32, 4);
        house.run(200);
        Check.yes("it has stopped: " + text, house.core(0, 33) != 0);
        return house;
    }

    private static void register(String text, int due) {
        CoreHouse house = done(text + "ecall;");
        Check.same(text, house.core(0, 3), due);
        Check.same("cause", house.core(0, 33), 1);
    }

    private static void reckoning() {
        String ab = "li x1,-5;li x2,3;";
        register(ab + "add x3,x1,x2;", -2);
        register(ab + "sub x3,x1,x2;", -8);
        register(ab + "sll x3,x1,x2;", -40);
        register(ab + "slt x3,x1,x2;", 1);
        register(ab + "slt x3,x2,x1;", 0);
        register(ab + "sltu x3,x1,x2;", 0);
        register(ab + "sltu x3,x2,x1;", 1);
        register(ab + "xor x3,x1,x2;", -5 ^ 3);
        register(ab + "srl x3,x1,x2;", -5 >>> 3);
        register(ab + "sra x3,x1,x2;", -1);
        register(ab + "or x3,x1,x2;", -5 | 3);
        register(ab + "and x3,x1,x2;", -5 & 3);
        register("li x1,1;li x2,33;sll x3,x1,x2;", 2);
        register("li x1,0x80000000;addi x3,x1,-1;", 0x7fffffff);
        register("li x1,-5;slti x3,x1,-4;", 1);
        register("li x1,5;sltiu x3,x1,-1;", 1);
        register("li x1,5;xori x3,x1,-1;", -6);
        register("li x1,5;ori x3,x1,10;", 15);
        register("li x1,13;andi x3,x1,-2;", 12);
        register("li x1,3;slli x3,x1,31;", 0x80000000);
        register("li x1,-1;srli x3,x1,31;", 1);
        register("li x1,-8;srai x3,x1,2;", -2);
        register("lui x3,0xfffff;", 0xfffff000);
        register("nop;nop;auipc x3,0x10;", 0x10008);
        register("li x3,0x12345fff;", 0x12345fff);
        register("li x3,0xffffffff;", -1);
        register("li x3,-2049;", -2049);
        register("li x1,7;mv x3,x1;", 7);
        register("li x1,7;not x3,x1;", -8);
        register("li x1,7;neg x3,x1;", -7);
        register("addi x0,x0,5;mv x3,x0;", 0);
    }

    private static void jumps() {
        register("li x3,1;j a;li x3,2;a:", 1);
        register("jal x3,a;nop;a:", 4);
        register("li x1,13;jalr x3,0(x1);ecall;", 8);
        register("li x1,12;jalr x1,4(x1);ecall;ecall;mv x3,x1;", 8);
        register("jal x1,f;ecall;f:li x3,9;ret;", 9);
        CoreHouse house = done("core 0;j a;org 8188;a:jal x1,8;org 0;j a;ecall;");
        Check.same("8188 + 4 is not taken modulo 8192", house.core(0, 1), 8192);
        Check.same("8188 + 8 is 4", house.core(0, 32), 4);
        CoreHouse falls = done("j a;org 8184;a:auipc x3,1;li x0,0;org 0;j b;b:ecall;org 8184;core 0;");
        Check.same("auipc", falls.core(0, 3), 8184 + 4096);
        Check.same("behind 8188 is 0", falls.core(0, 32), 4);
    }

    private static void branches() {
        String[] words = {"beq", "bne", "blt", "bge", "bltu", "bgeu"};
        int[][] pairs = {{5, 5}, {-5, 5}, {5, -5}};
        for (int[] p : pairs) {
            boolean[] due = {p[0] == p[1], p[0] != p[1], p[0] < p[1], p[0] >= p[1],
                Integer.compareUnsigned(p[0], p[1]) < 0, Integer.compareUnsigned(p[0], p[1]) >= 0};
            for (int i = 0; i < words.length; i++) {
                register("li x1," + p[0] + ";li x2," + p[1] + ";li x3,1;" + words[i] + " x1,x2,a;li x3,0;a:",
                    due[i] ? 1 : 0);
            }
        }
        register("li x3,0;li x1,4;a:addi x3,x3,3;addi x1,x1,-1;bnez x1,a;beqz x1,b;li x3,0;b:", 12);
    }

    private static void loadsAndStores() {
        String data = "j go;org 64;d:word 0x8192f3e4;word 7;go:";
        register(data + "lw x3,d(x0);", 0x8192f3e4);
        register(data + "lh x3,d(x0);", 0xfffff3e4);
        register(data + "lhu x3,d(x0);", 0xf3e4);
        register(data + "lh x3,66(x0);", 0xffff8192);
        register(data + "lb x3,67(x0);", 0xffffff81);
        register(data + "lbu x3,65(x0);", 0xf3);
        register(data + "li x1,68;lw x3,-4(x1);", 0x8192f3e4);
        register(data + "li x1,-8124;lw x3,0(x1);", 7);
        register(data + "li x1,0x1234;sb x1,65(x0);lw x3,d(x0);", 0x819234e4);
        register(data + "li x1,0x56781234;sh x1,66(x0);lw x3,d(x0);", 0x1234f3e4);
        register(data + "li x1,0x56781234;sw x1,68(x0);fence;lw x3,68(x0);", 0x56781234);
        register(data + "sw x0,d(x0);fence;lhu x3,66(x0);", 0);
    }

    private static void atomics() {
        String[] words = {"amoswap", "amoadd", "amoxor", "amoand", "amoor", "amomin", "amomax", "amominu", "amomaxu"};
        int a = -12;
        int b = 10;
        int[] due = {b, a + b, a ^ b, a & b, a | b, a, b, b, a};
        for (int i = 0; i < words.length; i++) {
            CoreHouse house = done("li x1,64;li x2,10;" + words[i] + " x3,x2,(x1);ecall;org 64;word -12;");
            Check.same(words[i] + " d", house.core(0, 3), a);
            Check.same(words[i] + " word", house.word(64), due[i]);
            Check.same(words[i] + " cached", house.cached(0, 4), 3);
        }
        CoreHouse same = done("li x1,64;amoadd x1,x1,(x1);ecall;org 64;word 3;");
        Check.same("d may be a and b", same.core(0, 1), 3);
        Check.same("its word", same.word(64), 67);
        CoreHouse bits = done("li x1,64;word 0x0610a1af;ecall;org 64;word 3;");
        Check.same("the two lowest bits of funct7 are not looked at", bits.core(0, 3), 3);
        Check.same("its word", bits.word(64), 67);
    }

    private static void stopsByCall() {
        CoreHouse house = Check.house("nop;ebreak;", 1, 1, 1, 1, 1, 1);
        Check.retire(house, 0, 2);
        Check.same("cause", house.core(0, 33), 1);
        Check.same("place stays", house.core(0, 32), 4);
        Check.same("it retired", house.core(0, 35), 2);
        Check.same("no more", house.step(0), 0);
    }

    private static void stopsByWord() {
        int[] words = {0, -1, 0x00000073 | 1 << 7, 0x00200073, 0x30200073, 0x0000100f, 0x02208033, 0x40001033, 0x40001013,
            0x02005013, 0x3003, 0x6003, 0x7003, 0x3023, 0x7023, 0x2063, 0x3063, 0x1067, 0x1000202f, 0x1800202f, 0x0800302f,
            0x302f, 0x5000202f, 0x0001, 0x40002033, 0x1b};
        for (int word : words) {
            CoreHouse house = Check.house("word " + word + ";", 1, 1, 1, 1, 1, 1);
            Check.retire(house, 0, 1);
            Check.same("cause of " + Integer.toHexString(word), house.core(0, 33), 2);
            Check.same("place", house.core(0, 32), 0);
            Check.same("it retired", house.core(0, 35), 1);
            Check.same("no more", house.step(0), 0);
        }
        int[] fences = {0x0f, 0x0ff0000f, 0xffff8f8f, 0x8330000f};
        for (int word : fences) {
            CoreHouse house = Check.house("word " + word + ";", 1, 1, 1, 1, 1, 1);
            Check.retire(house, 0, 1);
            Check.same("cause of a fence", house.core(0, 33), 0);
            Check.same("place behind a fence", house.core(0, 32), 4);
        }
    }

    private static void stopsByPlace() {
        CoreHouse house = Check.house("j 6;nop;", 1, 1, 1, 1, 1, 1);
        Check.retire(house, 0, 1);
        Check.same("place", house.core(0, 32), 6);
        Check.same("step", house.step(0), 1);
        Check.same("cause", house.core(0, 33), 3);
        Check.same("nothing retires", house.core(0, 35), 1);
        Check.same("nothing is sent", house.total(1), 0);
        Check.same("place stays", house.core(0, 32), 6);
        Check.same("no more", house.step(0), 0);
    }

    private static void stopsByAddress() {
        String[] texts = {"lw x1,2(x0);", "lh x1,1(x0);", "lhu x1,3(x0);", "sw x1,1(x0);", "sh x1,1(x0);", "lw x1,-1(x0);"};
        for (String text : texts) {
            CoreHouse house = Check.house(text, 1, 1, 1, 1, 1, 1);
            Check.retire(house, 0, 1);
            Check.same("cause of " + text, house.core(0, 33), 4);
            Check.same("place", house.core(0, 32), 0);
            Check.same("no store", house.core(0, 34), 0);
        }
        // Ahead of a full buffer, and ahead of one that is not empty.
        CoreHouse store = Check.house("sw x0,64(x0);sw x0,65(x0);", 1, 1, 1, 1, 1, 1);
        Check.retire(store, 0, 2);
        Check.same("cause", store.core(0, 33), 4);
        CoreHouse atomic = Check.house("li x1,66;sw x0,64(x0);amoadd x1,x1,(x1);", 1, 1, 1, 1, 1, 1);
        Check.retire(atomic, 0, 3);
        Check.same("cause", atomic.core(0, 33), 4);
        Check.same("drain of a core that has stopped", atomic.drain(0), 2);
        Check.deliverAll(atomic);
        Check.same("drain of a core that has stopped", atomic.drain(0), 1);
    }

    private static void answers() {
        CoreHouse house = Check.house("sw x0,64(x0);sw x0,68(x0);fence;amoadd x1,x0,(x0);lw x1,80(x0);ecall;",
            1, 1, 2, 4, 8, 1);
        Check.same("fetch waits", house.step(0), 2);
        Check.same("fetch waits still", house.step(0), 2);
        Check.same("but asks once", house.total(1), 1);
        Check.deliverAll(house);
        Check.same("a store", house.step(0), 1);
        Check.same("the buffer is full", house.step(0), 4);
        Check.same("drain waits", house.drain(0), 2);
        Check.deliverAll(house);
        Check.same("drain", house.drain(0), 1);
        Check.same("a store", house.step(0), 1);
        Check.same("a fence waits", house.step(0), 5);
        Check.same("drain", house.drain(0), 1);
        Check.same("a fence", house.step(0), 1);
        Check.same("place", house.core(0, 32), 12);
        Check.same("an atomic one", house.step(0), 1);
        Check.same("fetch waits", house.step(0), 2);
        Check.deliverAll(house);
        Check.same("a load waits", house.step(0), 3);
        Check.same("the place stays", house.core(0, 32), 16);
        Check.deliverAll(house);
        Check.same("a load", house.step(0), 1);
        Check.same("ecall", house.step(0), 1);
        Check.same("stopped", house.step(0), 0);
        CoreHouse waits = Check.house("amoadd x1,x0,(x2);amoadd x1,x0,(x2);", 2, 1, 1, 2, 4, 1);
        Check.retire(waits, 1, 1);
        Check.same("line 0 is with core 1", waits.cached(1, 0), 3);
        Check.same("fetch waits", waits.step(0), 2);
        Check.deliverAll(waits);
        Check.same("now both have it", waits.cached(0, 0), 1);
        Check.same("an atomic one waits", waits.step(0), 6);
        Check.same("GETM", waits.message(0, 0), 1);
        Check.same("an atomic one with a store ahead", busyAtomic(), 5);
    }

    private static int busyAtomic() {
        CoreHouse house = Check.house("sw x0,64(x0);amoadd x1,x0,(x2);", 1, 2, 1, 1, 1, 1);
        Check.retire(house, 0, 1);
        return house.step(0);
    }

    private static void readsItsOwnStores() {
        CoreHouse house = Check.house("li x1,0x11223344;sw x1,64(x0);sb x0,65(x0);lw x2,64(x0);lb x3,66(x0);lw x4,68(x0);",
            1, 4, 1, 2, 2, 1);
        Check.retire(house, 0, 6);
        Check.same("the latest of each byte", house.core(0, 2), 0x11220044);
        Check.same("a byte", house.core(0, 3), 0x22);
        Check.same("nothing was asked for but the text", house.core(0, 38), 2);
        Check.same("another word is not in the buffer", house.step(0), 3);
        // Text that is still in the buffer is fetched from there; what is there in part needs the cache.
        CoreHouse text = Check.house("li x1,0x73;sw x1,16(x0);j a;nop;a:nop;", 1, 2, 1, 1, 1, 1);
        Check.retire(text, 0, 4);
        Check.same("ecall from the buffer", text.core(0, 33), 1);
        Check.same("not from memory", text.memory(16), 0x13);
        CoreHouse part = Check.house("sb x0,64(x0);lw x1,64(x0);org 64;word -1;", 1, 2, 1, 2, 1, 2);
        Check.retire(part, 0, 1);
        Check.same("the other bytes are missing", part.step(0), 3);
        Check.deliverAll(part);
        Check.same("now they are there", part.step(0), 1);
        Check.same("laid over", part.core(0, 1), 0xffffff00);
    }
}

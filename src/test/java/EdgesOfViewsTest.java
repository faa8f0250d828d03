import java.util.NoSuchElementException;

/** Promises 12 to 15, 18, 21 at their boundaries, and that what only looks changes nothing. */
public final class EdgesOfViewsTest {
    private static final Class<?> NO_ELEMENT = NoSuchElementException.class;
    private static final int LEAST = Integer.MIN_VALUE;
    private static final int MOST = Integer.MAX_VALUE;

    public static void main(String[] args) {
        traceOfThirtyTwo();
        traceOfEachKind();
        traceOfStops();
        wrongTraces();
        whatOfACore();
        wrongCores();
        cachedAtTheEnds();
        copyAtTheEnds();
        memoryAtTheEnds();
        totalsAtTheEnds();
        totalsSinceAssemble();
        totalsOfAllCores();
        lookingChangesNothing();
        Check.end();
    }

    // ---- the trace

    private static void traceOfThirtyTwo() {
        CoreHouse house = Check.house("addi x1,x1,1;addi x1,x1,1;j -8;", 1, 1, 1, 1, 1, 1);
        house.run(1);
        for (int retired = 0; retired <= 70; retired++) {
            int most = Math.min(32, retired);
            for (int k = 0; k < most; k++) {
                int nth = retired - 1 - k;
                Check.same("ahead of it", house.trace(0, k, 7), nth);
                Check.same("place", house.trace(0, k, 0), nth % 3 * 4);
                Check.same("register", house.trace(0, k, 2), nth % 3 == 2 ? 0 : 1);
                Check.same("became", house.trace(0, k, 3), nth % 3 == 2 ? 0 : nth / 3 * 2 + nth % 3 + 1);
            }
            for (int k : new int[] {most, most + 1, 32, 33, 64}) {
                Check.fails("trace(0, " + k + ", 0) of " + retired, NO_ELEMENT, () -> house.trace(0, k, 0));
                Check.fails("trace(0, " + k + ", 7) of " + retired, NO_ELEMENT, () -> house.trace(0, k, 7));
            }
            Check.same("step", house.step(0), 1);
        }
        Check.same("assemble", house.assemble(), 0);
        Check.fails("empty again", NO_ELEMENT, () -> house.trace(0, 0, 0));
    }

    /** The newest row of a core that has done the text. */
    private static void row(String text, int times, int... due) {
        CoreHouse house = Check.house(text, 1, 4, 1, 4, 1, 8);
        Check.retire(house, 0, times);
        Check.same("place of " + text, house.trace(0, 0, 0), 4 * times - 4);
        Check.same("word of " + text, house.trace(0, 0, 1), house.memory(4 * times - 4));
        for (int i = 0; i < due.length; i++) {
            Check.same("trace of " + text + ", " + (2 + i), house.trace(0, 0, 2 + i), due[i]);
        }
        Check.same("ahead of " + text, house.trace(0, 0, 7), times - 1);
    }

    private static void traceOfEachKind() {
        int none = CoreHouse.NONE;
        String data = "org 64;word 0x8000f0f1;word 7;org 0;";
        row(data + "lui x31,0xfffff;", 1, 31, -4096, none, 0, 0);
        row(data + "lui x0,0xfffff;", 1, 0, 0, none, 0, 0);
        row(data + "auipc x5,1;", 1, 5, 4096, none, 0, 0);
        row(data + "jal x5,64;", 1, 5, 4, none, 0, 0);
        row(data + "jal x0,64;", 1, 0, 0, none, 0, 0);
        row(data + "jalr x5,64(x0);", 1, 5, 4, none, 0, 0);
        row(data + "beq x0,x0,64;", 1, 0, 0, none, 0, 0);
        row(data + "bne x31,x0,64;", 1, 0, 0, none, 0, 0);
        row(data + "fence;", 1, 0, 0, none, 0, 0);
        row(data + "word 0xffff8fff;", 1, 0, 0, none, 0, 0);
        row(data + "lw x5,64(x0);", 1, 5, 0x8000f0f1, 64, 0x8000f0f1, 0);
        row(data + "lb x5,64(x0);", 1, 5, -15, 64, -15, 0);
        row(data + "lbu x5,65(x0);", 1, 5, 0xf0, 65, 0xf0, 0);
        row(data + "lh x5,66(x0);", 1, 5, -32768, 66, -32768, 0);
        row(data + "lhu x5,66(x0);", 1, 5, 0x8000, 66, 0x8000, 0);
        row(data + "lb x0,64(x0);", 1, 0, 0, 64, -15, 0);
        row(data + "lw x5,68(x0);", 1, 5, 7, 68, 7, 0);
        row(data + "addi x5,x0,-1;sw x5,64(x0);", 2, 0, 0, 64, 0, -1);
        row(data + "addi x5,x0,-1;sh x5,66(x0);", 2, 0, 0, 66, 0, 0xffff);
        row(data + "addi x5,x0,-1;sb x5,67(x0);", 2, 0, 0, 67, 0, 0xff);
        row(data + "addi x5,x0,-1;sb x5,-1(x0);", 2, 0, 0, 8191, 0, 0xff);
        row(data + "addi x5,x0,68;amoadd x5,x5,(x5);", 2, 5, 7, 68, 7, 75);
        row(data + "addi x5,x0,68;amoswap x0,x5,(x5);", 2, 0, 0, 68, 7, 68);
        row(data + "addi x5,x0,68;amomin x6,x0,(x5);", 2, 6, 7, 68, 7, 0);
        row(data + "addi x5,x0,68;amomax x6,x0,(x5);", 2, 6, 7, 68, 7, 7);
        row(data + "sub x7,x0,x0;", 1, 7, 0, none, 0, 0);
    }

    private static void traceOfStops() {
        int none = CoreHouse.NONE;
        row("ecall;", 1, 0, 0, none, 0, 0);
        row("nop;ebreak;", 2, 0, 0, none, 0, 0);
        row("addi x5,x0,9;lw x5,65(x0);", 2, 0, 0, none, 0, 0);
        row("addi x5,x0,9;sw x5,65(x0);", 2, 0, 0, none, 0, 0);
        row("addi x5,x0,9;amoadd x5,x5,(x5);", 2, 0, 0, none, 0, 0);
        row("addi x5,x0,9;word 0x000072b7;", 2, 5, 0x7000, none, 0, 0);
        row("addi x5,x0,9;word 0x000072ff;", 2, 0, 0, none, 0, 0);
    }

    private static void wrongTraces() {
        CoreHouse house = Check.house("nop;j -4;", 3, 1, 1, 1, 1, 4);
        house.run(100);
        for (int core : new int[] {LEAST, -1, 3, 4, 15, 16, MOST}) {
            Check.fails("trace(" + core + ", 0, 0)", NO_ELEMENT, () -> house.trace(core, 0, 0));
        }
        for (int k : new int[] {LEAST, -32, -1, 32, 33, MOST}) {
            Check.fails("trace(0, " + k + ", 0)", NO_ELEMENT, () -> house.trace(0, k, 0));
        }
        for (int what : new int[] {LEAST, -1, 8, 9, MOST}) {
            Check.fails("trace(0, 0, " + what + ")", NO_ELEMENT, () -> house.trace(0, 0, what));
        }
        Check.same("the last core", house.trace(2, 31, 7), house.core(2, 35) - 32);
    }

    // ---- a core

    private static void whatOfACore() {
        StringBuilder text = new StringBuilder();
        for (int r = 0; r < 32; r++) {
            text.append("li x").append(r).append(',').append(100 + r).append(';');
        }
        CoreHouse house = Check.house(text + "nop;", 16, 1, 1, 1, 2, 8);
        Check.retire(house, 15, 32);
        for (int r = 0; r < 32; r++) {
            Check.same("x" + r, house.core(15, r), r == 0 ? 0 : 100 + r);
            Check.same("x" + r + " of another", house.core(14, r), 0);
        }
        int[] due = {128, 0, 0, 32, CoreHouse.NONE, CoreHouse.NONE, 8, 0, 0};
        for (int i = 0; i < due.length; i++) {
            Check.same("what " + (32 + i), house.core(15, 32 + i), due[i]);
        }
        Check.same("fetch", house.step(15), 2);
        Check.same("request", house.core(15, 36), 8);
        Check.same("shelf", house.core(15, 37), 7);
        Check.same("misses", house.core(15, 38), 9);
    }

    private static void wrongCores() {
        CoreHouse house = Check.house("sw x0,64(x0);sw x0,68(x0);nop;", 2, 16, 1, 1, 2, 8);
        Check.retire(house, 1, 2);
        for (int core : new int[] {LEAST, -1, 2, 3, 15, 16, MOST}) {
            Check.fails("core(" + core + ", 0)", NO_ELEMENT, () -> house.core(core, 0));
        }
        for (int what : new int[] {LEAST, -1, 41, 42, 98, 99, 106, 107, 108, 147, 148, 200, MOST}) {
            Check.fails("core(1, " + what + ")", NO_ELEMENT, () -> house.core(1, what));
        }
        Check.same("the first", house.core(1, 100), 64);
        Check.same("the last", house.core(1, 105), 0);
        Check.same("what 40", house.core(1, 40), 0);
        for (int what : new int[] {99, 100, 101, 102}) {
            Check.fails("core(0, " + what + ")", NO_ELEMENT, () -> house.core(0, what));
        }
    }

    // ---- caches and memory

    private static void cachedAtTheEnds() {
        CoreHouse house = Check.house("lw x1,-4(x0);nop;", 2, 1, 1, 2, 1, 8);
        Check.retire(house, 1, 1);
        Check.same("line 0", house.cached(1, 0), 2);
        Check.same("line 511", house.cached(1, 511), 2);
        Check.same("line 510", house.cached(1, 510), 0);
        Check.same("of core 0", house.cached(0, 511), 0);
        for (int core : new int[] {LEAST, -1, 2, 15, 16, MOST}) {
            Check.same("cached(" + core + ", 0)", house.cached(core, 0), CoreHouse.NONE);
        }
        for (int line : new int[] {LEAST, -512, -1, 512, 513, 1023, MOST}) {
            Check.same("cached(1, " + line + ")", house.cached(1, line), CoreHouse.NONE);
        }
    }

    private static void copyAtTheEnds() {
        CoreHouse house = Check.house("lw x1,-4(x0);nop;org 8176;word 1;word 2;word 3;word 4;", 2, 1, 1, 2, 1, 8);
        Check.retire(house, 1, 1);
        for (int i = 0; i < 4; i++) {
            Check.same("copy", house.copy(1, 8176 + 4 * i), i + 1);
        }
        Check.same("copy", house.copy(1, 4), 0x13);
        for (int address : new int[] {LEAST, -16, -4, -1, 1, 2, 3, 16, 8172, 8175, 8177, 8178, 8179, 8189, 8190, 8191, 8192, 8193, 8196,
            MOST}) {
            Check.fails("copy(1, " + address + ")", NO_ELEMENT, () -> house.copy(1, address));
        }
        for (int core : new int[] {LEAST, -1, 0, 2, 16, MOST}) {
            Check.fails("copy(" + core + ", 0)", NO_ELEMENT, () -> house.copy(core, 0));
        }
    }

    private static void memoryAtTheEnds() {
        CoreHouse house = Check.house("word 1;word 2;org 8184;word 3;word 4;", 1, 1, 1, 1, 1, 1);
        int[] addresses = {0, 4, 8, 8180, 8184, 8188};
        int[] due = {1, 2, 0, 0, 3, 4};
        for (int i = 0; i < due.length; i++) {
            Check.same("memory(" + addresses[i] + ")", house.memory(addresses[i]), due[i]);
            Check.same("word(" + addresses[i] + ")", house.word(addresses[i]), due[i]);
        }
        for (int address : new int[] {LEAST, -8192, -4, -3, -2, -1, 1, 2, 3, 5, 6, 7, 8185, 8187, 8189, 8190, 8191, 8192, 8196, MOST}) {
            Check.fails("memory(" + address + ")", IndexOutOfBoundsException.class, () -> house.memory(address));
            Check.fails("word(" + address + ")", IndexOutOfBoundsException.class, () -> house.word(address));
        }
    }

    // ---- totals

    private static void totalsAtTheEnds() {
        CoreHouse house = Check.house("", 16, 15, 2, 4, 32, 7);
        int[] due = {16, 0, 0, 0, 0, 0, 0, 15, 2, 4, 32, 7, 0, 0};
        for (int what = 0; what < due.length; what++) {
            Check.same("total(" + what + ")", house.total(what), due[what]);
        }
        for (int what : new int[] {LEAST, -2, -1, 14, 15, 100, MOST}) {
            Check.same("total(" + what + ")", house.total(what), CoreHouse.NONE);
        }
    }

    private static void totalsSinceAssemble() {
        CoreHouse house = Check.house("amoadd x1,x1,(x0);j a;org 32;a:j b;org 64;b:nop;", 1, 1, 1, 2, 2, 1);
        house.run(20);
        Check.play(house, "d0s0");
        int[] some = {2, 3, 4, 5, 6, 12, 13};
        for (int what : some) {
            Check.yes("total(" + what + ") is more than 0", house.total(what) > 0);
        }
        Check.type(house, "$");
        Check.fails("a fault", IllegalArgumentException.class, house::assemble);
        for (int what : some) {
            Check.yes("total(" + what + ") stays with a fault", house.total(what) > 0);
        }
        Check.same("assemble", house.assemble(), 0);
        for (int what : some) {
            Check.same("total(" + what + ") behind assemble", house.total(what), 0);
        }
    }

    private static void totalsOfAllCores() {
        CoreHouse house = Check.house("li x3,64;amoadd x1,x2,(x3);ecall;", 16, 1, 1, 2, 8, 8);
        for (int i = 0; i < 5; i++) {
            house.run(100);
        }
        Check.same("retired", house.total(2), 48);
        Check.same("changed", house.total(4), 16);
        CoreHouse last = Check.house("li x3,64;amoadd x1,x2,(x3);ecall;", 16, 1, 1, 2, 8, 8);
        Check.retire(last, 15, 3);
        Check.same("retired", last.total(2), 3);
        Check.same("changed", last.total(4), 1);
    }

    private static void lookingChangesNothing() {
        CoreHouse house = Check.house("a:li x1,9;sw x1,64(x0);lw x2,80(x0);amoadd x3,x1,(x0);j a;", 3, 2, 1, 2, 1, 8);
        Check.play(house, "s0s1s2m00m00m01m00s0s0d0m02s1d1m03m00s0");
        State before = State.of(house);
        int[] odd = {LEAST, -1, 0, 1, 3, 7, 16, 512, 8192, MOST};
        for (int x : odd) {
            for (int y : odd) {
                Check.Call[] calls = {() -> house.trace(x, y, 0), () -> house.trace(0, x, y), () -> house.core(x, y),
                    () -> house.cached(x, y), () -> house.copy(x, y), () -> house.home(x, y), () -> house.waiting(x),
                    () -> house.memory(x), () -> house.word(y), () -> house.message(x, y), () -> house.total(x), () -> house.fault(y)};
                for (Check.Call call : calls) {
                    try {
                        call.answer();
                    } catch (NoSuchElementException | IndexOutOfBoundsException e) {
                        // Refused; only what it leaves behind counts here.
                    }
                }
            }
        }
        Check.yes("nothing has changed", before.isThatOf(house));
    }
}

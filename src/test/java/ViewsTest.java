import java.util.NoSuchElementException;

/** Promises 13 to 19 and 21: core, cached, copy, home, waiting, memory, word, total. */
public final class ViewsTest {
    private static final Class<?> NO_ELEMENT = NoSuchElementException.class;
    private static final Class<?> NO_INDEX = IndexOutOfBoundsException.class;

    public static void main(String[] args) {
        cores();
        stores();
        caches();
        homes();
        waiting();
        memory();
        words();
        totals();
        Check.end();
    }

    private static void cores() {
        CoreHouse house = Check.house("li x31,5;li x1,6;ecall;", 2, 1, 1, 1, 2, 1);
        Check.retire(house, 0, 2);
        Check.same("x31", house.core(0, 31), 5);
        Check.same("x1", house.core(0, 1), 6);
        Check.same("x0", house.core(0, 0), 0);
        Check.same("place", house.core(0, 32), 8);
        Check.same("cause", house.core(0, 33), 0);
        Check.same("stores", house.core(0, 34), 0);
        Check.same("retired", house.core(0, 35), 2);
        Check.same("no request", house.core(0, 36), CoreHouse.NONE);
        Check.same("no shelf", house.core(0, 37), CoreHouse.NONE);
        Check.same("misses", house.core(0, 38), 1);
        Check.same("the other core", house.core(1, 31), 0);
        house.step(1);
        Check.same("its request", house.core(1, 36), 0);
        int[] wrong = {-1, 41, 99, 100, 101, 102, 148, Integer.MIN_VALUE, Integer.MAX_VALUE};
        for (int what : wrong) {
            Check.fails("core(0, " + what + ")", NO_ELEMENT, () -> house.core(0, what));
        }
        Check.fails("core(2, 0)", NO_ELEMENT, () -> house.core(2, 0));
        Check.fails("core(-1, 0)", NO_ELEMENT, () -> house.core(-1, 0));
    }

    private static void stores() {
        CoreHouse house = Check.house("li x1,0x12345678;sw x1,64(x0);sb x1,71(x0);sh x1,2(x0);sb x1,-1(x0);", 1, 16, 1, 4, 1, 4);
        Check.retire(house, 0, 6);
        int[] due = {64, 15, 0x12345678, 68, 8, 0x78000000, 0, 12, 0x56780000, 8188, 8, 0x78000000};
        Check.same("stores", house.core(0, 34), 4);
        for (int i = 0; i < due.length; i++) {
            Check.same("core(0, " + (100 + i) + ")", house.core(0, 100 + i), due[i]);
        }
        Check.fails("a fifth", NO_ELEMENT, () -> house.core(0, 112));
    }

    private static void caches() {
        CoreHouse house = Check.house("lw x1,64(x0);sw x1,80(x0);nop;org 64;word 5;word 6;word 7;word 8;", 2, 1, 1, 4, 8, 2);
        Check.retire(house, 0, 2);
        house.drain(0);
        Check.deliverAll(house);
        Check.same("GIVE M", house.cached(0, 5), 3);
        Check.same("E", house.cached(0, 4), 2);
        Check.same("not", house.cached(0, 6), 0);
        house.step(1);
        Check.deliverAll(house);
        Check.same("S", house.cached(0, 0), 1);
        Check.same("S", house.cached(1, 0), 1);
        Check.same("not", house.cached(1, 4), 0);
        Check.same("no core", house.cached(2, 0), CoreHouse.NONE);
        Check.same("no core", house.cached(-1, 0), CoreHouse.NONE);
        Check.same("no line", house.cached(0, 512), CoreHouse.NONE);
        Check.same("no line", house.cached(0, -1), CoreHouse.NONE);
        Check.same("the last line", house.cached(0, 511), 0);
        for (int i = 0; i < 4; i++) {
            Check.same("copy", house.copy(0, 64 + 4 * i), 5 + i);
        }
        Check.same("copy", house.copy(1, 8), 0x13);
        int[] wrong = {96, 65, 66, 67, -4, 8192, 8256, Integer.MIN_VALUE};
        for (int address : wrong) {
            Check.fails("copy(0, " + address + ")", NO_ELEMENT, () -> house.copy(0, address));
        }
        Check.fails("copy(1, 64)", NO_ELEMENT, () -> house.copy(1, 64));
        Check.fails("copy(2, 0)", NO_ELEMENT, () -> house.copy(2, 0));
        Check.fails("copy(-1, 0)", NO_ELEMENT, () -> house.copy(-1, 0));
    }

    private static void homes() {
        CoreHouse house = Check.house("lw x1,64(x0);lw x1,128(x0);nop;org 128;word 5;word 6;word 7;word 8;", 2, 1, 1, 4, 4, 2);
        Check.retire(house, 0, 1);
        int[] due = {0, 0, CoreHouse.NONE, 0, 0, 0, 0, 0, 0, 1};
        for (int what = 0; what < due.length; what++) {
            Check.same("home(4, " + what + ")", house.home(4, what), due[what]);
        }
        Check.same("a third line in its set", house.step(0), 3);
        house.deliver(0);
        Check.same("recall", house.home(0, 2), 16);
        Check.same("ack", house.home(0, 3), 1);
        Check.deliverAll(house);
        int[] third = {0, 0, CoreHouse.NONE, 0, 0, 5, 6, 7, 8, 0};
        for (int what = 0; what < third.length; what++) {
            Check.same("home(8, " + what + ")", house.home(8, what), third[what]);
        }
        int[] lines = {0, 1, 511, 512, -1, Integer.MIN_VALUE, Integer.MAX_VALUE};
        for (int line : lines) {
            Check.fails("home(" + line + ", 0)", NO_ELEMENT, () -> house.home(line, 0));
        }
        Check.fails("home(8, 10)", NO_ELEMENT, () -> house.home(8, 10));
        Check.fails("home(8, -1)", NO_ELEMENT, () -> house.home(8, -1));
    }

    private static void waiting() {
        CoreHouse house = Check.house("nop;org 16;core 2;core 3;nop;", 4, 1, 1, 1, 2, 2);
        for (int c = 0; c < 4; c++) {
            house.step(c);
        }
        for (int i = 0; i < 4; i++) {
            house.deliver(0);
        }
        Check.same("one waits", house.waiting(0), 1);
        Check.same("one waits", house.waiting(1), 1);
        Check.same("no set", house.waiting(2), CoreHouse.NONE);
        Check.same("no set", house.waiting(-1), CoreHouse.NONE);
        Check.deliverAll(house);
        Check.same("none waits", house.waiting(0) + house.waiting(1), 0);
    }

    private static void memory() {
        CoreHouse house = Check.house("word 1;org 8188;word 2;", 1, 1, 1, 1, 1, 1);
        Check.same("first", house.memory(0), 1);
        Check.same("last", house.memory(8188), 2);
        Check.same("word", house.word(0), 1);
        Check.same("word", house.word(8188), 2);
        int[] wrong = {-4, -1, 1, 2, 3, 8190, 8192, Integer.MIN_VALUE, Integer.MAX_VALUE};
        for (int address : wrong) {
            Check.fails("memory(" + address + ")", NO_INDEX, () -> house.memory(address));
            Check.fails("word(" + address + ")", NO_INDEX, () -> house.word(address));
        }
    }

    /** One word on its whole way: buffer, cache, shelf, message, home, memory. */
    private static void words() {
        CoreHouse house = Check.house("li x1,9;sw x1,64(x0);j a;org 128;a:j b;org 192;b:j c;org 256;c:nop;", 1, 1, 1, 1, 1, 2);
        Check.retire(house, 0, 2);
        Check.same("a store is no word yet", house.word(64), 0);
        house.drain(0);
        Check.deliverAll(house);
        Check.same("nor with the line there", house.word(64), 0);
        Check.same("drain", house.drain(0), 1);
        Check.same("in the cache", house.word(64), 9);
        house.step(0);
        Check.same("on the shelf", house.core(0, 37), 4);
        Check.same("on the shelf", house.word(64), 9);
        Check.yes("PUT", house.deliver(0));
        Check.same("in the home", house.word(64), 9);
        Check.same("in the home", house.home(4, 5), 9);
        Check.same("not in memory", house.memory(64), 0);
        Check.deliverAll(house);
        Check.retire(house, 0, 3);
        Check.fails("no way any more", NO_ELEMENT, () -> house.home(4, 0));
        Check.same("in memory", house.memory(64), 9);
        Check.same("in memory", house.word(64), 9);
    }

    private static void totals() {
        CoreHouse house = Check.house("li x1,9;sw x1,64(x0);sw x1,64(x0);amoswap x2,x1,(x0);j a;org 32;a:ecall;",
            2, 3, 2, 2, 2, 6);
        Check.same("cores", house.total(0), 2);
        Check.same("messages", house.total(1), 0);
        house.step(0);
        Check.same("messages", house.total(1), 1);
        Check.same("delivered", house.total(3), 0);
        Check.deliverAll(house);
        Check.same("delivered", house.total(3), 3);
        Check.same("lines", house.total(6), 1);
        house.run(40);
        Check.same("retired", house.total(2), 12);
        Check.same("retired", house.core(0, 35) + house.core(1, 35), 12);
        Check.same("changed, also to what they were", house.total(4), 6);
        Check.same("recalls", house.total(5), 0);
        Check.same("lines", house.total(6), 4);
        Check.same("stores", house.total(7), 3);
        Check.same("sets", house.total(8), 2);
        Check.same("ways", house.total(9), 2);
        Check.same("home's sets", house.total(10), 2);
        Check.same("home's ways", house.total(11), 6);
        Check.same("entries", house.total(12), 0);
        Check.play(house, "s0d0");
        Check.same("entries", house.total(12), 2);
        Check.same("idle", house.total(13), 2);
        Check.same("what 14", house.total(14), CoreHouse.NONE);
        Check.same("what -1", house.total(-1), CoreHouse.NONE);
    }
}

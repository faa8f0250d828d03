import java.util.NoSuchElementException;

/** Promise 12: trace. */
public final class TraceTest {
    public static void main(String[] args) {
        rowsAndStops();
        limit();
        wrongCalls();
        Check.end();
    }

    private static void row(CoreHouse house, int k, int... due) {
        for (int what = 0; what < 8; what++) {
            Check.same("trace " + k + ", " + what, house.trace(0, k, what), due[what]);
        }
    }

    private static void rowsAndStops() {
        String text = "li x1,-1;lui x2,1;sb x1,65(x0);lh x3,64(x0);lw x0,64(x0);addi x0,x1,1;fence;li x4,-8128;"
            + "amoadd x5,x1,(x4);jal x6,a;a:jalr x0,b(x0);b:beq x0,x0,c;c:sh x4,4(x4);ecall;";
        CoreHouse house = Check.house(text, 1, 1, 8, 4, 32, 4);
        house.run(60);
        int none = CoreHouse.NONE;
        // The newest first; word() still has the text, since nothing was stored over it.
        int[][] due = {
            {56, 0x73, 0, 0, none, 0, 0, 14},
            {52, house.word(52), 0, 0, 68, 0, 0xe040, 13},
            {48, house.word(48), 0, 0, none, 0, 0, 12},
            {44, house.word(44), 0, 0, none, 0, 0, 11},
            {40, house.word(40), 6, 44, none, 0, 0, 10},
            {36, house.word(36), 5, 0xff00, 64, 0xff00, 0xfeff, 9},
            {32, house.word(32), 4, -8128, none, 0, 0, 8},
            {28, house.word(28), 4, -8192, none, 0, 0, 7},
            {24, 0x0ff0000f, 0, 0, none, 0, 0, 6},
            {20, house.word(20), 0, 0, none, 0, 0, 5},
            {16, house.word(16), 0, 0, 64, 0xff00, 0, 4},
            {12, house.word(12), 3, 0xffffff00, 64, 0xffffff00, 0, 3},
            {8, house.word(8), 0, 0, 65, 0, 0xff, 2},
            {4, house.word(4), 2, 4096, none, 0, 0, 1},
            {0, house.word(0), 1, -1, none, 0, 0, 0}};
        Check.same("retired", house.core(0, 35), due.length);
        for (int k = 0; k < due.length; k++) {
            row(house, k, due[k]);
        }
        CoreHouse word = Check.house("nop;word 0xffff8fff;", 1, 1, 1, 1, 1, 1);
        Check.retire(word, 0, 2);
        row(word, 0, 4, 0xffff8fff, 0, 0, none, 0, 0, 1);
        CoreHouse address = Check.house("lw x1,1(x0);", 1, 1, 1, 1, 1, 1);
        Check.retire(address, 0, 1);
        row(address, 0, 0, 0x00102083, 0, 0, none, 0, 0, 0);
        CoreHouse place = Check.house("jal x1,2;", 1, 1, 1, 1, 1, 1);
        Check.retire(place, 0, 2);
        row(place, 0, 0, 0x002000ef, 1, 4, none, 0, 0, 0);
        Check.fails("a place retires nothing", NoSuchElementException.class, () -> place.trace(0, 1, 0));
    }

    private static void limit() {
        CoreHouse house = Check.house("addi x1,x1,1;j -4;", 1, 1, 1, 1, 1, 1);
        house.run(41);
        Check.same("retired", house.core(0, 35), 40);
        for (int k = 0; k < 32; k++) {
            Check.same("ahead", house.trace(0, k, 7), 39 - k);
            Check.same("place", house.trace(0, k, 0), k % 2 == 0 ? 4 : 0);
            Check.same("became", house.trace(0, k, 3), k % 2 == 0 ? 0 : 20 - k / 2);
        }
        Check.fails("the 33rd", NoSuchElementException.class, () -> house.trace(0, 32, 0));
    }

    private static void wrongCalls() {
        CoreHouse house = Check.house("nop;", 2, 1, 1, 1, 2, 1);
        Check.fails("none yet", NoSuchElementException.class, () -> house.trace(0, 0, 0));
        Check.retire(house, 0, 1);
        Check.same("one", house.trace(0, 0, 1), 0x13);
        Check.fails("k 1", NoSuchElementException.class, () -> house.trace(0, 1, 0));
        Check.fails("k -1", NoSuchElementException.class, () -> house.trace(0, -1, 0));
        Check.fails("what 8", NoSuchElementException.class, () -> house.trace(0, 0, 8));
        Check.fails("what -1", NoSuchElementException.class, () -> house.trace(0, 0, -1));
        Check.fails("core 2", NoSuchElementException.class, () -> house.trace(2, 0, 0));
        Check.fails("core -1", NoSuchElementException.class, () -> house.trace(-1, 0, 0));
        Check.fails("another core", NoSuchElementException.class, () -> house.trace(1, 0, 0));
    }
}

/** Promises 1 to 3: a new object, type, sizes. */
public final class BeginTest {
    public static void main(String[] args) {
        newObject();
        typing();
        tapeLimit();
        sizes();
        sizesWait();
        Check.end();
    }

    private static void newObject() {
        CoreHouse house = new CoreHouse();
        int[] totals = {1, 0, 0, 0, 0, 0, 0, 1, 1, 1, 1, 1, 0, 0};
        for (int what = 0; what < totals.length; what++) {
            Check.same("total " + what + " of a new object", house.total(what), totals[what]);
        }
        for (int address = 0; address < 8192; address += 4) {
            Check.same("memory", house.memory(address), 0);
            Check.same("word", house.word(address), 0);
        }
        for (int what = 0; what <= 40; what++) {
            int due = what == 36 || what == 37 ? CoreHouse.NONE : 0;
            Check.same("core 0, " + what, house.core(0, what), due);
        }
        Check.same("fault", house.fault(0), 0);
        Check.same("fault's place", house.fault(1), 0);
        Check.same("waiting", house.waiting(0), 0);
        Check.same("waiting at no set", house.waiting(1), CoreHouse.NONE);
        Check.same("NONE", CoreHouse.NONE, -1);
        // A word of zeros is no instruction; it must come from memory by two messages and a third.
        Check.same("step", house.step(0), 2);
        Check.same("messages", house.total(1), 1);
        Check.deliverAll(house);
        Check.same("messages delivered", house.total(3), 3);
        Check.same("step", house.step(0), 1);
        Check.same("cause", house.core(0, 33), 2);
        Check.same("step", house.step(0), 0);
        Check.fails("step of core 1", IndexOutOfBoundsException.class, () -> house.step(1));
    }

    private static void typing() {
        CoreHouse house = new CoreHouse();
        Check.no("n 0", house.type(0x6162, 0));
        Check.no("n 9", house.type(0x6162, 9));
        Check.no("n -1", house.type(0x6162, -1));
        Check.no("n least", house.type(0x6162, Integer.MIN_VALUE));
        Check.no("byte 31", house.type(0x611f, 2));
        Check.no("byte 127", house.type(0x7f61, 2));
        Check.no("byte 200", house.type(0xc8L, 1));
        Check.no("byte 0 ahead", house.type(0x61, 2));
        Check.no("negative word", house.type(-1L, 8));
        Check.yes("only the lowest bytes count", house.type(0x1f00000000006e6fL, 2));
        Check.yes("p;", house.type(0x703bL, 2));
        Check.same("nop alone", house.assemble(), 1);
        Check.same("its word", house.memory(0), 0x13);
        Check.yes("32 and 126", house.type(0x207eL, 2));
        Check.fails("a tilde", IllegalArgumentException.class, house::assemble);
        Check.same("its place", house.fault(1), 1);
        Check.same("the tape is empty", house.assemble(), 0);
    }

    private static void tapeLimit() {
        CoreHouse house = new CoreHouse();
        for (int i = 0; i < 187; i++) {
            Check.yes("eight blanks", house.type(0x2020202020202020L, 8));
        }
        Check.no("1504 are too many", house.type(0x2020202020202020L, 8));
        Check.yes("1499", house.type(0x202020L, 3));
        Check.no("1501", house.type(0x2020L, 2));
        Check.yes("1500", house.type(0x3bL, 1));
        Check.no("1501", house.type(0x3bL, 1));
        Check.same("all blanks and an empty statement", house.assemble(), 0);
        Check.yes("empty again", house.type(0x3bL, 1));
        CoreHouse full = new CoreHouse();
        Check.same("375 times ret", Check.assemble(full, "ret;".repeat(375)), 375);
        Check.same("the last", full.memory(374 * 4), 0x8067);
        Check.fault("a:".repeat(750), 1, 1500);
    }

    private static void sizes() {
        CoreHouse house = new CoreHouse();
        int[][] good = {{1, 1, 1, 1, 1, 1}, {16, 16, 8, 4, 64, 8}, {2, 3, 2, 2, 8, 1}, {3, 5, 1, 4, 2, 6},
            {16, 1, 1, 1, 2, 8}, {1, 1, 1, 1, 1, 7}};
        int[][] bad = {{0, 1, 1, 1, 1, 1}, {17, 1, 1, 1, 64, 8}, {1, 0, 1, 1, 1, 1}, {1, 17, 1, 1, 1, 1},
            {1, 1, 0, 1, 1, 1}, {1, 1, 3, 1, 4, 8}, {1, 1, 16, 1, 64, 8}, {1, 1, 1, 3, 4, 8}, {1, 1, 1, 8, 64, 8},
            {1, 1, 1, 0, 1, 1}, {1, 1, 1, 1, 3, 1}, {1, 1, 1, 1, 0, 1}, {1, 1, 1, 1, 128, 1}, {1, 1, 1, 1, 1, 0},
            {1, 1, 1, 1, 1, 9}, {2, 1, 1, 1, 1, 1}, {16, 16, 8, 4, 64, 7}, {3, 5, 1, 4, 1, 8}, {-1, 1, 1, 1, 1, 1},
            {1, 1, Integer.MIN_VALUE, 1, 1, 1}, {1, 1, 1, 1, Integer.MIN_VALUE, 1}};
        for (int[] s : bad) {
            Check.no("sizes", house.sizes(s[0], s[1], s[2], s[3], s[4], s[5]));
        }
        Check.same("assemble", house.assemble(), 0);
        Check.same("bad ones change nothing", house.total(0), 1);
        for (int[] s : good) {
            Check.yes("sizes", house.sizes(s[0], s[1], s[2], s[3], s[4], s[5]));
            Check.same("assemble", house.assemble(), 0);
            Check.same("cores", house.total(0), s[0]);
            for (int i = 1; i < 6; i++) {
                Check.same("size " + i, house.total(6 + i), s[i]);
            }
            Check.same("home sets", house.waiting(s[4] - 1), 0);
            Check.same("home sets", house.waiting(s[4]), CoreHouse.NONE);
        }
    }

    private static void sizesWait() {
        CoreHouse house = new CoreHouse();
        Check.yes("sizes", house.sizes(2, 2, 2, 2, 8, 8));
        Check.same("not yet", house.total(0), 1);
        Check.same("not yet", house.total(7), 1);
        Check.type(house, "foo;");
        Check.fails("assemble", IllegalArgumentException.class, house::assemble);
        Check.same("still not", house.total(0), 1);
        Check.no("worse sizes", house.sizes(9, 9, 9, 9, 9, 9));
        Check.same("assemble", house.assemble(), 0);
        Check.same("now", house.total(0), 2);
        Check.same("assemble", house.assemble(), 0);
        Check.same("as they were", house.total(0), 2);
    }
}

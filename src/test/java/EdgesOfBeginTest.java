import java.util.NoSuchElementException;

/** Promises 1 to 3 at their boundaries: a new object, type, sizes. */
public final class EdgesOfBeginTest {
    private static final int[] FAR = {Integer.MIN_VALUE, -1000000, -1, 1000000, Integer.MAX_VALUE};

    public static void main(String[] args) {
        newObjectIsEmpty();
        newObjectHasRoomForOne();
        newObjectPlaysAndRuns();
        howManyBytes();
        whichBytes();
        highestByteFirst();
        fullTape();
        refusedBytesLeaveTheTape();
        tapeIsEmptyInAnyCase();
        eachSize();
        homeHasRoomForAllCaches();
        refusedSizesChangeNothing();
        sizesWaitForAssemble();
        lastOfFiveHundredAndTwelveCalls();
        Check.end();
    }

    // ---- promise 1

    private static void newObjectIsEmpty() {
        CoreHouse house = new CoreHouse();
        for (int line = 0; line < 512; line++) {
            int l = line;
            Check.same("cached", house.cached(0, line), 0);
            Check.fails("home", NoSuchElementException.class, () -> house.home(l, 0));
            Check.fails("copy", NoSuchElementException.class, () -> house.copy(0, 16 * l));
        }
        Check.same("no second core", house.cached(1, 0), CoreHouse.NONE);
        Check.fails("no second core", NoSuchElementException.class, () -> house.core(1, 0));
        Check.fails("no second core", IndexOutOfBoundsException.class, () -> house.drain(1));
        Check.fails("no store", NoSuchElementException.class, () -> house.core(0, 100));
        Check.fails("no trace", NoSuchElementException.class, () -> house.trace(0, 0, 0));
        Check.fails("no message", NoSuchElementException.class, () -> house.message(0, 0));
        Check.no("nothing to deliver", house.deliver(0));
        Check.no("nothing to deliver", house.deliverOn(0, 0));
        Check.same("empty buffer", house.drain(0), 0);
        Check.same("waiting", house.waiting(0), 0);
        Check.same("one set alone", house.waiting(1), CoreHouse.NONE);
    }

    /** The sizes of a new object stay when it assembles without others. */
    private static void newObjectHasRoomForOne() {
        CoreHouse house = new CoreHouse();
        Check.same("words", Check.assemble(house, "sw x0,64(x0);sw x0,68(x0);org 16;"), 2);
        Check.retire(house, 0, 1);
        Check.same("a buffer of one is full with one", house.step(0), 4);
        CoreHouse lines = new CoreHouse();
        Check.assemble(lines, "j a;org 16;a:j a;");
        Check.retire(lines, 0, 1);
        Check.same("line 0", lines.cached(0, 0), 2);
        Check.retire(lines, 0, 1);
        Check.same("line 1 in the only way", lines.cached(0, 1), 2);
        Check.same("line 0 went", lines.cached(0, 0), 0);
        Check.same("one line in the home", lines.total(6), 1);
        Check.same("its way", lines.home(1, 9), 0);
    }

    private static void newObjectPlaysAndRuns() {
        CoreHouse house = new CoreHouse();
        Check.same("play", Check.play(house, "s0m00m00m00s0s0"), 1);
        Check.same("cause of a word of zeros", house.core(0, 33), 2);
        Check.same("waits", house.core(0, 40), 5);
        Check.same("entries", house.total(12), 6);
        CoreHouse runs = new CoreHouse();
        Check.same("run", runs.run(2), 1);
        Check.same("cause", runs.core(0, 33), 2);
    }

    // ---- promise 2

    private static void howManyBytes() {
        for (int n = -3; n <= 12; n++) {
            CoreHouse house = new CoreHouse();
            Check.same("n " + n, house.type(0x3b3b3b3b3b3b3b3bL, n) ? 1 : 0, n >= 1 && n <= 8 ? 1 : 0);
        }
        for (int n : FAR) {
            Check.no("n " + n, new CoreHouse().type(0x3b3b3b3b3b3b3b3bL, n));
        }
    }

    private static void whichBytes() {
        int[] marks = {0, 1, 30, 31, 32, 33, 65, 125, 126, 127, 128, 129, 160, 200, 254, 255};
        for (int n = 1; n <= 8; n++) {
            CoreHouse house = new CoreHouse();
            for (int at = 0; at < 8; at++) {
                for (int mark : marks) {
                    long word = 0x2020202020202020L & ~(0xffL << 8 * at) | (long) mark << 8 * at;
                    boolean due = at >= n || mark >= 32 && mark <= 126;
                    Check.same("n " + n + ", byte " + at + " is " + mark, house.type(word, n) ? 1 : 0, due ? 1 : 0);
                }
            }
        }
    }

    private static void highestByteFirst() {
        CoreHouse house = new CoreHouse();
        Check.yes("eight", house.type(0x776f726420312b20L, 8));
        Check.fails("word 1+", IllegalArgumentException.class, house::assemble);
        Check.same("place of +", house.fault(1), 6);
        Check.yes("only the lowest seven", house.type(0xff776f726420353bL, 7));
        Check.same("word 5;", house.assemble(), 1);
        Check.same("its word", house.memory(0), 5);
        Check.yes("one alone", house.type(0x776f72642035213bL, 1));
        Check.same(";", house.assemble(), 0);
    }

    private static void blanks(CoreHouse house, int n) {
        Check.type(house, " ".repeat(n));
    }

    private static void fullTape() {
        for (int n = 1; n <= 8; n++) {
            CoreHouse fits = new CoreHouse();
            blanks(fits, 1500 - n);
            Check.yes(n + " up to 1500", fits.type(0x2020202020202020L, n));
            Check.no("1501", fits.type(0x20, 1));
            Check.no("1508", fits.type(0x2020202020202020L, 8));
            CoreHouse beyond = new CoreHouse();
            blanks(beyond, 1501 - n);
            Check.no(n + " up to 1501", beyond.type(0x2020202020202020L, n));
            if (n > 1) {
                Check.yes(n - 1 + " up to 1500", beyond.type(0x2020202020202020L, n - 1));
            }
            Check.no("1501", beyond.type(0x20, 1));
        }
    }

    private static void refusedBytesLeaveTheTape() {
        CoreHouse house = new CoreHouse();
        Check.type(house, "word ");
        Check.no("a wrong byte behind a good one", house.type(0x377f, 2));
        Check.no("a wrong byte ahead of a good one", house.type(0x1f37, 2));
        Check.no("n 0", house.type(0x37, 0));
        Check.no("n 9", house.type(0x37, 9));
        State.stays("a refused type", house, () -> house.type(0x1f, 1) ? 1 : 0);
        Check.type(house, "5;");
        Check.same("word 5;", house.assemble(), 1);
        Check.same("its word", house.memory(0), 5);
        CoreHouse full = new CoreHouse();
        blanks(full, 1497);
        Check.no("nop; has no room", full.type(0x6e6f703bL, 4));
        Check.yes("nop has", full.type(0x6e6f70L, 3));
        Check.fails("without ;", IllegalArgumentException.class, full::assemble);
        Check.same("the tape's length", full.fault(1), 1500);
        Check.same("kind", full.fault(0), 1);
    }

    private static void tapeIsEmptyInAnyCase() {
        CoreHouse house = new CoreHouse();
        blanks(house, 1500);
        Check.same("assemble", house.assemble(), 0);
        blanks(house, 1500);
        Check.same("play", house.play(), 0);
        Check.type(house, "$".repeat(1500));
        Check.fails("a fault", IllegalArgumentException.class, house::assemble);
        Check.type(house, "$".repeat(1500));
        Check.fails("a fault", IllegalArgumentException.class, house::play);
        Check.type(house, ";".repeat(1500));
        Check.same("assemble", house.assemble(), 0);
        Check.same("an empty tape", house.assemble(), 0);
        Check.same("an empty tape", house.play(), 0);
    }

    // ---- promise 3

    private static boolean isOneOf(int size, int... those) {
        for (int one : those) {
            if (one == size) {
                return true;
            }
        }
        return false;
    }

    private static void size(boolean due, int... s) {
        CoreHouse house = new CoreHouse();
        String name = "sizes " + java.util.Arrays.toString(s);
        Check.same(name, house.sizes(s[0], s[1], s[2], s[3], s[4], s[5]) ? 1 : 0, due ? 1 : 0);
        Check.same("assemble", house.assemble(), 0);
        Check.same(name + " cores", house.total(0), due ? s[0] : 1);
        for (int i = 1; i < 6; i++) {
            Check.same(name + " size " + i, house.total(6 + i), due ? s[i] : 1);
        }
    }

    private static void eachSize() {
        for (int s = -2; s <= 130; s++) {
            size(s >= 1 && s <= 16, s, 1, 1, 1, 64, 8);
            size(s >= 1 && s <= 16, 1, s, 1, 1, 64, 8);
            size(isOneOf(s, 1, 2, 4, 8), 1, 1, s, 1, 64, 8);
            size(isOneOf(s, 1, 2, 4), 1, 1, 1, s, 64, 8);
            size(isOneOf(s, 1, 2, 4, 8, 16, 32, 64), 1, 1, 1, 1, s, 8);
            size(s >= 1 && s <= 8, 1, 1, 1, 1, 64, s);
        }
        for (int s : FAR) {
            for (int i = 0; i < 6; i++) {
                int[] sizes = {1, 1, 1, 1, 64, 8};
                sizes[i] = s;
                size(false, sizes);
            }
        }
        size(true, 16, 16, 8, 4, 64, 8);
        size(true, 1, 1, 1, 1, 1, 1);
        size(false, 0, 0, 0, 0, 0, 0);
        size(false, -1, 1, -1, 1, 1, 1);
    }

    private static void homeHasRoomForAllCaches() {
        int[] sets = {1, 2, 4, 8};
        int[] ways = {1, 2, 4};
        int[] homeSets = {1, 2, 4, 8, 16, 32, 64};
        int[] cores = {1, 2, 3, 5, 8, 15, 16};
        CoreHouse house = new CoreHouse();
        for (int c : cores) {
            for (int s : sets) {
                for (int w : ways) {
                    for (int hs : homeSets) {
                        for (int hw = 1; hw <= 8; hw++) {
                            Check.same("sizes " + c + " 1 " + s + " " + w + " " + hs + " " + hw,
                                house.sizes(c, 1, s, w, hs, hw) ? 1 : 0, hs * hw >= c * s * w ? 1 : 0);
                        }
                    }
                }
            }
        }
        size(true, 7, 1, 1, 1, 1, 7);
        size(true, 7, 1, 1, 1, 1, 8);
        size(false, 7, 1, 1, 1, 1, 6);
        size(false, 16, 1, 8, 4, 64, 7);
    }

    private static void refusedSizesChangeNothing() {
        CoreHouse house = Check.house("nop;j -4;", 2, 3, 2, 2, 8, 1);
        house.run(3);
        State.stays("refused sizes", house, () -> house.sizes(17, 1, 1, 1, 64, 8) ? 1 : 0);
        Check.yes("good ones", house.sizes(3, 4, 1, 1, 4, 2));
        int[][] bad = {{0, 5, 4, 4, 64, 8}, {4, 17, 4, 4, 64, 8}, {4, 5, 3, 4, 64, 8}, {4, 5, 4, 3, 64, 8},
            {4, 5, 4, 4, 3, 8}, {4, 5, 4, 4, 64, 9}, {4, 5, 4, 4, 1, 1}};
        for (int[] s : bad) {
            Check.no("sizes", house.sizes(s[0], s[1], s[2], s[3], s[4], s[5]));
        }
        Check.same("assemble", house.assemble(), 0);
        int[] due = {3, 4, 1, 1, 4, 2};
        Check.same("cores", house.total(0), due[0]);
        for (int i = 1; i < 6; i++) {
            Check.same("size " + i + " of the good ones", house.total(6 + i), due[i]);
        }
    }

    private static void sizesWaitForAssemble() {
        CoreHouse house = Check.house("nop;j -4;", 2, 3, 2, 2, 8, 1);
        house.run(3);
        State.stays("good sizes", house, () -> house.sizes(4, 4, 1, 1, 8, 2) ? 1 : 0);
        Check.fails("not yet", IndexOutOfBoundsException.class, () -> house.step(2));
        Check.yes("the later ones count", house.sizes(1, 2, 1, 4, 4, 1));
        Check.type(house, "$");
        Check.fails("a fault", IllegalArgumentException.class, house::assemble);
        Check.same("they wait still", house.total(0), 2);
        Check.type(house, "s0");
        house.play();
        Check.same("play does not take them", house.total(0), 2);
        Check.same("assemble", house.assemble(), 0);
        int[] due = {1, 2, 1, 4, 4, 1};
        Check.same("cores", house.total(0), due[0]);
        for (int i = 1; i < 6; i++) {
            Check.same("size " + i, house.total(6 + i), due[i]);
        }
        Check.same("assemble again", house.assemble(), 0);
        Check.same("cores as they were", house.total(0), 1);
        Check.same("ways as they were", house.total(9), 4);
    }

    /** An object is used for at most 512 calls: the last of them still answers as due. */
    private static void lastOfFiveHundredAndTwelveCalls() {
        CoreHouse house = new CoreHouse();
        house.type(0x616464692078312cL, 8);
        house.type(0x78312c313b6a202dL, 8);
        house.type(0x343b, 2);
        Check.same("addi x1,x1,1;j -4;", house.assemble(), 2);
        for (int i = 0; i < 507; i++) {
            house.run(200);
        }
        Check.same("the 512th", house.core(0, 1), 50700);
    }
}

import java.util.NoSuchElementException;

/** Promises 16, 17, 19 at their boundaries: sets and ways of the home, what waits at a set, recalls, who has a line. */
public final class EdgesOfHomeTest {
    private static final Class<?> NO_ELEMENT = NoSuchElementException.class;
    private static final int NONE = CoreHouse.NONE;
    private static final int GETS = 0;
    private static final int GETM = 1;
    private static final int PUT = 2;
    private static final int INV = 3;
    private static final int DOWN = 4;
    private static final int ACK = 5;
    private static final int GIVE_S = 6;
    private static final int GIVE_E = 7;
    private static final int GIVE_M = 8;
    private static final int BACK = 9;
    private static final int DONE = 10;

    public static void main(String[] args) {
        setsAndWays();
        allLines();
        changedWordsGoToMemory();
        freeWayThoughOneIsOlder();
        otherAcksTakeNothing();
        lowestWayThatHasNothing();
        takenLongestAgo();
        putIsNoRequest();
        allAboutSomething();
        sixteenSharersRecalled();
        fifteenAcksForOne();
        lastAckOnly();
        holdsUpItsSetAlone();
        severalTakenAtOnce();
        fullQueue();
        putThatComesLate();
        putWithoutWay();
        aloneWithoutOthers();
        wordOnAllItsWay();
        fourWordsOfALine();
        wordsOfTwoLines();
        wordBehindAnOldAck();
        wordBesideAnOldPut();
        wrongCalls();
        Check.end();
    }

    private static void message(CoreHouse house, int k, int kind, int core, int line) {
        Check.same("kind of message " + k, house.message(k, 0), kind);
        boolean comes = kind <= PUT || kind == ACK || kind == DONE;
        Check.same("core of message " + k, house.message(k, comes ? 1 : 2), core);
        Check.same("home of message " + k, house.message(k, comes ? 2 : 1), 16);
        Check.same("line of message " + k, house.message(k, 3), line);
    }

    /** Delivers what was sent last, and what comes by it, until only so many are left. */
    private static void deliverDownTo(CoreHouse house, int left) {
        for (int i = 0; i < 1000 && house.total(1) > left; i++) {
            Check.yes("deliver", house.deliver(house.total(1) - 1));
        }
        Check.same("messages", house.total(1), left);
    }

    // ---- sets and ways

    /** A core goes along lines of one set: as many as it has ways stay, one more takes the way of the first. */
    private static void setsAndWays() {
        for (int sets = 1; sets <= 64; sets *= 2) {
            for (int ways = 1; ways <= 8; ways++) {
                CoreHouse house = Check.house(chain(sets, ways), 1, 1, 1, 1, sets, ways);
                for (int i = 0; i <= ways && i * sets < 512; i++) {
                    Check.retire(house, 0, 1);
                    Check.same("its way", house.home(i * sets, 9), i % ways);
                    Check.same("lines of " + sets + " sets, " + ways + " ways behind " + i, house.total(6), Math.min(i + 1, ways));
                    for (int j = 1; j <= i; j++) {
                        Check.same("way of another", house.home(j * sets, 9), j % ways);
                    }
                }
                if (ways * sets < 512) {
                    Check.fails("the first one went", NO_ELEMENT, () -> house.home(0, 9));
                } else {
                    Check.same("all lines have room", house.home(0, 9), 0);
                }
                Check.same("none was recalled", house.total(5), 0);
                Check.same("the last set", house.waiting(sets - 1), 0);
                Check.same("no such set", house.waiting(sets), NONE);
            }
        }
    }

    private static String chain(int sets, int ways) {
        StringBuilder text = new StringBuilder();
        for (int i = 0; i <= ways && i * sets < 512; i++) {
            text.append("org ").append(16 * i * sets).append(";j ").append(16 * sets).append(';');
        }
        return text.toString();
    }

    /** A core reads all 512 lines: the home has as many of them as it has room for, each in its set. */
    private static void allLines() {
        int[][] sizes = {{64, 8}, {64, 7}, {64, 2}, {32, 3}, {16, 8}, {8, 5}, {2, 8}, {1, 8}};
        for (int[] size : sizes) {
            CoreHouse house = Check.house("a:lw x2,0(x1);addi x1,x1,16;j a;", 1, 1, 1, 2, size[0], size[1]);
            int least = Math.min(size[0] * size[1], 512);
            for (int i = 0; i < 40 && house.core(0, 1) < 8192; i++) {
                house.run(100);
            }
            Check.yes("all were read", house.core(0, 1) >= 8192);
            Check.same("lines in the home of " + size[0] + " sets, " + size[1] + " ways", house.total(6), least);
            int[] seen = new int[size[0]];
            for (int line = 0; line < 512; line++) {
                try {
                    int way = house.home(line, 9);
                    Check.yes("a way of its set", way >= 0 && way < size[1] && (seen[line % size[0]] >> way & 1) == 0);
                    seen[line % size[0]] |= 1 << way;
                    Check.yes("one by one in a home with room for all", size[0] * size[1] < 512 || way == line / 64);
                } catch (NoSuchElementException e) {
                    Check.yes("only a smaller home has it not", size[0] * size[1] < 512);
                }
            }
        }
    }

    /** Three ways: a way is free, and another one, about nothing, was asked for longer ago: the free one is taken. */
    private static void freeWayThoughOneIsOlder() {
        CoreHouse house = Check.house("core 0;j a;org 16;core 1;nop;org 32;core 2;nop;org 48;a:nop;", 3, 1, 1, 1, 1, 3);
        Check.same("fetch", house.step(2), 2);
        Check.yes("GETS of 2", house.deliver(0));
        Check.yes("GIVE of 2", house.deliver(0));
        message(house, 0, DONE, 2, 2);
        for (int c = 0; c < 2; c++) {
            Check.same("fetch", house.step(c), 2);
            deliverDownTo(house, 1);
        }
        Check.same("ways", house.home(2, 9) + 10 * house.home(0, 9) + 100 * house.home(1, 9), 210);
        Check.same("jump", house.step(0), 1);
        Check.same("fetch", house.step(0), 2);
        message(house, 1, PUT, 0, 0);
        message(house, 2, GETS, 0, 3);
        Check.yes("GETS of 3", house.deliver(2));
        Check.same("line 0 is recalled", house.home(0, 2), 16);
        Check.yes("PUT of 0", house.deliver(1));
        Check.same("it waits", house.waiting(0), 2);
        Check.same("line 1 is recalled, too", house.home(1, 2), 16);
        message(house, 1, INV, 0, 0);
        message(house, 2, INV, 1, 1);
        Check.yes("INV of 1", house.deliver(2));
        Check.yes("ACK of 1", house.deliver(2));
        Check.same("line 3 has its way", house.home(3, 9), 2);
        Check.same("PUT waits", house.waiting(0), 1);
        Check.yes("INV of 0", house.deliver(1));
        message(house, 2, ACK, 0, 0);
        Check.yes("ACK of 0", house.deliver(2));
        Check.same("none waits", house.waiting(0), 0);
        Check.same("one way has nothing", house.total(6), 2);
        Check.yes("DONE of 2", house.deliver(0));
        Check.same("line 2 is about nothing", house.home(2, 2), NONE);
        Check.same("fetch", house.step(1), 2);
        int last = house.total(1) - 1;
        message(house, last, GETS, 1, 1);
        Check.yes("GETS of 1", house.deliver(last));
        Check.same("the free way", house.home(1, 9), 1);
        Check.same("no further recall", house.total(5), 2);
        Check.same("line 2 stays", house.home(2, 2), NONE);
    }

    /** Only DONE and a recall's last ACK let what waits be tried again, not the last ACK of DOWN or INV. */
    private static void otherAcksTakeNothing() {
        for (int ask = GETS; ask <= GETM; ask++) {
            String first = ask == GETS ? "lw x1,0(x0);nop;" : "sw x1,4(x0);nop;";
            CoreHouse house = Check.house("nop;org 16;core 1;" + first + "org 32;core 2;j a;org 48;a:nop;", 3, 1, 1, 1, 1, 3);
            for (int c = 0; c < 3; c++) {
                Check.same("fetch", house.step(c), 2);
                Check.deliverAll(house);
            }
            Check.same("jump", house.step(2), 1);
            Check.same("core 1", house.step(1), ask == GETS ? 3 : 1);
            Check.same("drain", house.drain(1), ask == GETS ? 0 : 2);
            Check.same("fetch", house.step(2), 2);
            message(house, 1, ask, 1, 0);
            message(house, 3, GETS, 2, 3);
            Check.yes("core 1 for line 0", house.deliver(1));
            Check.yes("core 2 for line 3", house.deliver(2));
            message(house, 2, ask == GETS ? DOWN : INV, 0, 0);
            message(house, 3, INV, 1, 1);
            Check.same("line 1 is recalled", house.home(1, 2), 16);
            Check.same("recalls", house.total(5), 1);
            Check.yes("DOWN or INV", house.deliver(2));
            message(house, 3, ACK, 0, 0);
            Check.yes("its ACK", house.deliver(3));
            Check.same("given", house.message(3, 0), ask == GETS ? GIVE_S : GIVE_M);
            Check.same("nothing is tried by it", house.total(5), 1);
            Check.same("line 2 is about nothing", house.home(2, 2), NONE);
            Check.yes("GIVE", house.deliver(3));
            Check.same("nor by this", house.total(5), 1);
            message(house, 3, DONE, 1, 0);
            Check.yes("DONE", house.deliver(3));
            Check.same("by DONE it is", house.total(5), 2);
            Check.deliverAll(house);
            Check.same("in the end", house.waiting(0), 0);
        }
    }

    private static void changedWordsGoToMemory() {
        // Line 1 is changed, goes back, and its way is taken by line 3 (two sets of one way).
        CoreHouse house = Check.house("li x1,9;sw x1,20(x0);nop;j a;org 32;a:j b;org 48;b:nop;", 1, 1, 1, 1, 2, 1);
        Check.retire(house, 0, 2);
        house.drain(0);
        Check.deliverAll(house);
        Check.same("drain", house.drain(0), 1);
        Check.retire(house, 0, 2);
        Check.same("CHANGED", house.home(1, 4), 1);
        Check.same("no owner", house.home(1, 0), NONE);
        Check.same("memory is old", house.memory(20), 0);
        Check.retire(house, 0, 1);
        Check.same("memory is old still", house.memory(20), 0);
        Check.retire(house, 0, 1);
        Check.same("memory", house.memory(20), 9);
        Check.same("word", house.word(20), 9);
        Check.fails("no way", NO_ELEMENT, () -> house.home(1, 0));
        int[] fresh = {0, 0, NONE, 0, 0, 0x13, 0, 0, 0, 0};
        for (int what = 0; what < fresh.length; what++) {
            Check.same("line 3, " + what, house.home(3, what), fresh[what]);
        }
        Check.same("no recall", house.total(5), 0);
    }

    /** Cores 0 and 1 have lines 0 and 1 in the only two ways, and ask for lines 3 and 4. */
    private static CoreHouse bothAsk() {
        CoreHouse house = Check.house("core 0;j a;org 16;core 1;j b;org 48;a:nop;org 64;b:nop;", 2, 1, 1, 1, 1, 2);
        for (int c = 0; c < 2; c++) {
            Check.retire(house, c, 1);
        }
        for (int c = 0; c < 2; c++) {
            Check.same("fetch", house.step(c), 2);
        }
        message(house, 1, GETS, 0, 3);
        message(house, 3, GETS, 1, 4);
        return house;
    }

    private static void lowestWayThatHasNothing() {
        CoreHouse house = bothAsk();
        Check.yes("GETS of 3", house.deliver(1));
        Check.yes("GETS of 4", house.deliver(2));
        message(house, 2, INV, 0, 0);
        message(house, 3, INV, 1, 1);
        Check.yes("INV of line 1", house.deliver(3));
        message(house, 3, ACK, 1, 1);
        Check.yes("its ACK", house.deliver(3));
        Check.same("line 3 got the way of line 1", house.home(3, 9), 1);
        Check.same("line 4 waits", house.waiting(0), 1);
        Check.same("lines", house.total(6), 2);
        Check.yes("INV of line 0", house.deliver(2));
        Check.yes("its ACK", house.deliver(3));
        Check.same("line 4 got the way of line 0", house.home(4, 9), 0);
        Check.same("none waits", house.waiting(0), 0);
        Check.same("recalls", house.total(5), 2);
        // Of two that have nothing the lowest.
        CoreHouse free = Check.house("nop;", 2, 1, 1, 1, 1, 8);
        Check.retire(free, 1, 1);
        Check.same("way 0", free.home(0, 9), 0);
    }

    private static void takenLongestAgo() {
        // Lines 0 (core 0) and 1 (core 1); core 1 then asks for line 0, so line 1 is the older one.
        CoreHouse house = Check.house("core 0;nop;j a;org 16;core 1;j -12;org 32;a:nop;", 2, 1, 1, 1, 1, 2);
        Check.retire(house, 0, 1);
        Check.retire(house, 1, 1);
        Check.retire(house, 1, 1);
        Check.same("both have line 0", house.home(0, 1), 3);
        Check.same("fetch", house.step(1), 2);
        Check.deliverAll(house);
        Check.same("line 2 in the way of line 1", house.home(2, 9), 1);
        Check.same("line 0 stays", house.home(0, 9), 0);
        Check.same("no recall", house.total(5), 0);
    }

    private static void putIsNoRequest() {
        // Line 0 was asked for first and comes back last: its way is taken all the same.
        CoreHouse house = Check.house("core 0;j a;org 16;core 1;nop;org 32;a:nop;", 2, 1, 1, 1, 1, 2);
        Check.retire(house, 0, 1);
        Check.retire(house, 1, 1);
        Check.same("fetch", house.step(0), 2);
        message(house, 0, PUT, 0, 0);
        Check.deliverAll(house);
        Check.same("line 2 in the way of line 0", house.home(2, 9), 0);
        Check.same("line 1 stays", house.home(1, 9), 1);
        Check.same("no recall", house.total(5), 0);
        Check.same("what it had is in memory", house.memory(0), house.word(0));
    }

    private static void allAboutSomething() {
        CoreHouse house = Check.house("core 0;j a;org 16;core 1;nop;org 32;a:nop;", 2, 1, 1, 1, 1, 2);
        house.step(0);
        house.step(1);
        Check.yes("GETS of 0", house.deliver(0));
        Check.yes("GETS of 1", house.deliver(0));
        Check.yes("GIVE to 0", house.deliver(0));
        message(house, 0, GIVE_E, 1, 1);
        message(house, 1, DONE, 0, 0);
        Check.same("jump", house.step(0), 1);
        Check.same("fetch", house.step(0), 2);
        message(house, 2, PUT, 0, 0);
        message(house, 3, GETS, 0, 2);
        Check.yes("GETS of 2", house.deliver(3));
        Check.same("it waits", house.waiting(0), 1);
        Check.same("nothing was sent", house.total(1), 3);
        Check.same("no recall", house.total(5), 0);
        Check.yes("PUT", house.deliver(2));
        Check.same("it waits behind", house.waiting(0), 2);
        Check.same("nothing was sent", house.total(1), 2);
        Check.yes("DONE", house.deliver(1));
        Check.same("now line 0 is recalled", house.home(0, 2), 16);
        Check.same("recalls", house.total(5), 1);
        Check.same("both wait still", house.waiting(0), 2);
        message(house, 1, INV, 0, 0);
        Check.yes("GIVE to 1", house.deliver(0));
        Check.yes("INV", house.deliver(0));
        message(house, 0, DONE, 1, 1);
        message(house, 1, ACK, 0, 0);
        Check.same("with the shelf's words", house.message(1, 4), 1);
        Check.yes("ACK", house.deliver(1));
        Check.same("both are taken", house.waiting(0), 0);
        message(house, 1, GIVE_E, 0, 2);
        message(house, 2, BACK, 0, 0);
        Check.deliverAll(house);
        Check.same("recalls", house.total(5), 1);
        Check.same("line 2", house.cached(0, 2), 2);
        Check.same("line 1", house.cached(1, 1), 2);
    }

    // ---- sixteen cores

    /** Each of sixteen cores begins at an odd line, comes to line 0, and goes on to an even line of its own. */
    private static CoreHouse sixteen(String ahead) {
        StringBuilder text = new StringBuilder("z:" + ahead + "jalr x0,0(x1);");
        for (int c = 0; c < 16; c++) {
            text.append("org ").append(528 + 32 * c).append(";core ").append(c).append(";li x1,").append(32 * c + 32).append(";j z;");
        }
        CoreHouse house = Check.house(text.toString(), 16, 1, 1, 1, 2, 8);
        for (int c = 0; c < 16; c++) {
            Check.retire(house, c, 2);
        }
        for (int c = 0; c < 16; c++) {
            Check.same("fetch", house.step(c), 2);
            Check.deliverAll(house);
        }
        Check.same("all are sharers", house.home(0, 1), 0xffff);
        Check.same("no owner", house.home(0, 0), NONE);
        return house;
    }

    private static void sixteenSharersRecalled() {
        CoreHouse house = sixteen("");
        for (int c = 0; c < 16; c++) {
            Check.same("jump", house.step(c), 1);
        }
        for (int c = 0; c < 7; c++) {
            Check.same("fetch", house.step(c), 2);
            Check.deliverAll(house);
            Check.same("its way", house.home(2 * c + 2, 9), c + 1);
        }
        int before = house.total(5);
        Check.same("fetch", house.step(7), 2);
        Check.yes("GETS", house.deliver(0));
        Check.same("a recall", house.total(5), before + 1);
        Check.same("about", house.home(0, 2), 16);
        Check.same("acks", house.home(0, 3), 16);
        Check.same("sixteen messages", house.total(1), 16);
        for (int c = 0; c < 16; c++) {
            message(house, c, INV, c, 0);
        }
        for (int left = 16; left > 1; left--) {
            Check.yes("INV", house.deliver(0));
            deliverDownTo(house, left - 1);
            Check.same("acks", house.home(0, 3), left - 1);
            Check.same("about", house.home(0, 2), 16);
            Check.same("it waits", house.waiting(0), 1);
        }
        Check.yes("INV", house.deliver(0));
        Check.yes("the last ACK", house.deliver(0));
        Check.fails("the way has nothing of line 0", NO_ELEMENT, () -> house.home(0, 2));
        Check.same("line 16 has it", house.home(16, 9), 0);
        Check.same("none waits", house.waiting(0), 0);
        message(house, 0, GIVE_E, 7, 16);
    }

    private static void fifteenAcksForOne() {
        for (int asks : new int[] {0, 7, 15}) {
            CoreHouse house = sixteen("amoadd x2,x0,(x0);");
            Check.same("an atomic one", house.step(asks), 6);
            message(house, 0, GETM, asks, 0);
            Check.yes("GETM", house.deliver(0));
            Check.same("about", house.home(0, 2), asks);
            Check.same("acks", house.home(0, 3), 15);
            Check.same("fifteen messages", house.total(1), 15);
            for (int c = 0; c < 15; c++) {
                message(house, c, INV, c < asks ? c : c + 1, 0);
            }
            Check.deliverAll(house);
            Check.same("owner", house.home(0, 0), asks);
            Check.same("no sharers", house.home(0, 1), 0);
            Check.same("acks", house.home(0, 3), 0);
            for (int c = 0; c < 16; c++) {
                Check.same("cached by " + c, house.cached(c, 0), c == asks ? 3 : 0);
            }
            Check.same("then it is done", house.step(asks), 1);
        }
    }

    private static void lastAckOnly() {
        CoreHouse house = sixteen("amoadd x2,x0,(x0);");
        house.step(3);
        Check.yes("GETM", house.deliver(0));
        for (int left = 15; left > 0; left--) {
            Check.same("acks", house.home(0, 3), left);
            Check.same("sharers stay", house.home(0, 1), 0xffff);
            Check.same("no owner yet", house.home(0, 0), NONE);
            Check.no("no GIVE yet", house.deliverOn(2, 0));
            Check.yes("INV", house.deliver(left - 1));
            message(house, left - 1, ACK, left > 3 ? left : left - 1, 0);
            Check.same("an ACK on its way is still due", house.home(0, 3), left);
            Check.yes("ACK", house.deliver(left - 1));
        }
        Check.same("one message", house.total(1), 1);
        message(house, 0, GIVE_M, 3, 0);
        Check.same("owner", house.home(0, 0), 3);
        Check.same("about till DONE", house.home(0, 2), 3);
        Check.yes("GIVE", house.deliver(0));
        Check.same("about till DONE", house.home(0, 2), 3);
        message(house, 0, DONE, 3, 0);
        Check.yes("DONE", house.deliver(0));
        Check.same("about nothing", house.home(0, 2), NONE);
    }

    // ---- what waits

    private static void holdsUpItsSetAlone() {
        // Line 0 is about core 0; core 1 waits for it; core 2 asks for line 2 (the same set), core 3 for line 1.
        CoreHouse house = Check.house("core 0;core 1;nop;org 32;core 2;nop;org 16;core 3;nop;", 4, 1, 1, 1, 2, 8);
        for (int c = 0; c < 4; c++) {
            house.step(c);
        }
        Check.yes("core 0", house.deliver(0));
        Check.yes("core 1", house.deliver(0));
        Check.yes("core 2", house.deliver(0));
        Check.same("two wait at set 0", house.waiting(0), 2);
        Check.yes("core 3", house.deliver(0));
        Check.same("none at set 1", house.waiting(1), 0);
        Check.same("line 1 is given", house.home(1, 2), 3);
        Check.fails("line 2 has no way yet", NO_ELEMENT, () -> house.home(2, 0));
        message(house, 1, GIVE_E, 3, 1);
        // A DONE at set 1 takes nothing at set 0.
        Check.yes("GIVE to 3", house.deliver(1));
        Check.yes("DONE of 3", house.deliver(1));
        Check.same("two wait at set 0", house.waiting(0), 2);
        Check.yes("GIVE to 0", house.deliver(0));
        Check.yes("DONE of 0", house.deliver(0));
        Check.same("none waits", house.waiting(0), 0);
        message(house, 0, DOWN, 0, 0);
        message(house, 1, GIVE_E, 2, 2);
    }

    private static void severalTakenAtOnce() {
        // Core 0 has line 1 and sends it back for line 0; cores 1 and 2 ask for line 0 and 2, too.
        CoreHouse house = Check.house("nop;org 16;core 0;j -16;org 32;core 2;nop;org 0;core 1;core 3;", 4, 1, 1, 1, 1, 8);
        Check.retire(house, 0, 1);
        Check.same("fetch", house.step(3), 2);
        Check.yes("GETS of 3", house.deliver(0));
        Check.yes("GIVE to 3", house.deliver(0));
        message(house, 0, DONE, 3, 0);
        house.step(1);
        house.step(0);
        house.step(2);
        message(house, 1, GETS, 1, 0);
        message(house, 2, PUT, 0, 1);
        message(house, 3, GETS, 0, 0);
        message(house, 4, GETS, 2, 2);
        Check.yes("core 1 for line 0", house.deliver(1));
        Check.yes("PUT", house.deliver(1));
        Check.yes("core 2 for line 2", house.deliver(2));
        Check.same("three wait", house.waiting(0), 3);
        Check.yes("core 0 for line 0", house.deliver(1));
        Check.same("four wait", house.waiting(0), 4);
        Check.same("PUT is not taken", house.home(1, 0), 0);
        Check.yes("DONE", house.deliver(0));
        // DOWN for core 1, BACK, GIVE for core 2; the last waits for line 0 again.
        Check.same("one waits", house.waiting(0), 1);
        Check.same("three were sent", house.total(1), 3);
        message(house, 0, DOWN, 3, 0);
        message(house, 1, BACK, 0, 1);
        message(house, 2, GIVE_E, 2, 2);
        Check.same("no owner", house.home(1, 0), NONE);
        Check.same("about core 1", house.home(0, 2), 1);
        Check.deliverAll(house);
        Check.same("sharers", house.home(0, 1), 11);
    }

    /** Each core has one request and one PUT at most: all thirty-two wait at one set. */
    private static void fullQueue() {
        StringBuilder text = new StringBuilder();
        for (int c = 0; c < 16; c++) {
            text.append("org ").append(32 * c).append(";core ").append(c).append(";j 1024;");
        }
        CoreHouse house = Check.house(text.toString(), 16, 1, 1, 1, 2, 8);
        for (int c = 0; c < 8; c++) {
            Check.retire(house, c, 1);
        }
        for (int c = 0; c < 8; c++) {
            Check.same("fetch", house.step(c), 2);
        }
        Check.same("messages", house.total(1), 16);
        for (int c = 8; c < 16; c++) {
            // Each takes the way of a line that is on a shelf by a recall.
            Check.same("fetch", house.step(c), 2);
            deliverDownTo(house, 16);
            Check.same("jump", house.step(c), 1);
        }
        Check.same("recalls", house.total(5), 8);
        for (int c = 8; c < 16; c++) {
            Check.same("fetch", house.step(c), 2);
        }
        Check.same("messages", house.total(1), 32);
        for (int k = 0; k < 32; k++) {
            message(house, k, k % 2 == 0 ? PUT : GETS, k / 2, k % 2 == 0 ? k : k / 2 * 2 + 64);
        }
        Check.yes("GETS of core 0", house.deliver(1));
        for (int waiting = 1; waiting < 32; waiting++) {
            Check.same("waiting", house.waiting(0), waiting);
            Check.yes("one more", house.deliverOn(0, 0));
        }
        Check.same("all", house.waiting(0), 32);
        Check.same("none at the other set", house.waiting(1), 0);
        Check.no("no more of channel 0", house.deliverOn(0, 0));
        Check.same("all eight ways are recalled", house.total(5), 16);
        Check.deliverAll(house);
        Check.same("none waits", house.waiting(0), 0);
        for (int c = 0; c < 16; c++) {
            Check.same("shelf of " + c, house.core(c, 37), NONE);
            Check.same("request of " + c, house.core(c, 36), NONE);
        }
    }

    // ---- PUT

    private static void putThatComesLate() {
        // Core 0 has line 1 as M on its shelf; core 1 takes and changes it before PUT comes.
        CoreHouse one = Check.house("li x1,9;sw x1,16(x0);nop;org 32;core 1;li x1,5;sw x1,16(x0);nop;", 2, 1, 1, 1, 1, 8);
        Check.retire(one, 0, 2);
        one.drain(0);
        Check.deliverAll(one);
        Check.same("drain", one.drain(0), 1);
        Check.retire(one, 1, 2);
        Check.same("fetch", one.step(0), 2);
        message(one, 0, PUT, 0, 1);
        message(one, 1, GETS, 0, 0);
        Check.same("drain", one.drain(1), 2);
        deliverDownTo(one, 3);
        Check.same("core 1 has it", one.cached(1, 1), 3);
        Check.same("its word", one.copy(1, 16), 9);
        Check.same("drain", one.drain(1), 1);
        Check.same("word", one.word(16), 5);
        message(one, 0, PUT, 0, 1);
        Check.same("old words", one.message(0, 5), 9);
        Check.yes("PUT", one.deliver(0));
        Check.same("owner stays", one.home(1, 0), 1);
        Check.same("word stays", one.word(16), 5);
        message(one, one.total(1) - 1, BACK, 0, 1);
        Check.same("shelf till BACK", one.core(0, 37), 1);
        Check.yes("BACK", one.deliver(one.total(1) - 1));
        Check.same("shelf", one.core(0, 37), NONE);
        Check.deliverAll(one);
        Check.same("word stays", one.word(16), 5);
    }

    private static void putWithoutWay() {
        // Both ask: the recalls take both lines from the shelves; then PUT finds no way.
        CoreHouse house = bothAsk();
        Check.yes("GETS of 3", house.deliver(1));
        Check.yes("GETS of 4", house.deliver(2));
        for (int i = 0; i < 8; i++) {
            Check.yes("INV, ACK, GIVE, DONE of both, one by one", house.deliver(2));
        }
        Check.same("only PUT of both is left", house.total(1), 2);
        message(house, 0, PUT, 0, 0);
        message(house, 1, PUT, 1, 1);
        Check.fails("no way", NO_ELEMENT, () -> house.home(0, 0));
        Check.same("shelf", house.core(0, 37), 0);
        Check.yes("PUT", house.deliver(0));
        message(house, 1, BACK, 0, 0);
        Check.fails("still no way", NO_ELEMENT, () -> house.home(0, 0));
        Check.same("lines", house.total(6), 2);
        Check.yes("BACK", house.deliver(1));
        Check.same("shelf", house.core(0, 37), NONE);
        Check.deliverAll(house);
        Check.same("shelf", house.core(1, 37), NONE);
    }

    /** GETM of a line that nobody has: GIVE M at once; GETS: GIVE E, or GIVE S with sharers. */
    private static void aloneWithoutOthers() {
        CoreHouse house = Check.house("sw x0,64(x0);nop;", 3, 1, 1, 2, 1, 8);
        Check.retire(house, 0, 1);
        Check.same("drain", house.drain(0), 2);
        Check.yes("GETM", house.deliver(0));
        Check.same("one message", house.total(1), 1);
        message(house, 0, GIVE_M, 0, 4);
        Check.same("owner", house.home(4, 0), 0);
        Check.same("not CHANGED", house.home(4, 4), 0);
        Check.deliverAll(house);
        house.step(1);
        Check.deliverAll(house);
        house.step(2);
        Check.yes("GETS", house.deliver(0));
        message(house, 0, GIVE_S, 2, 0);
        Check.same("sharers", house.home(0, 1), 7);
    }

    /** One changed word in a cache, on a shelf, in PUT that waits, in the home, in ACK alone, in GIVE, in memory. */
    private static void wordOnAllItsWay() {
        CoreHouse house = Check.house("li x1,9;sw x1,16(x0);nop;org 32;core 1;lw x2,16(x0);nop;", 2, 1, 1, 1, 1, 8);
        Check.retire(house, 0, 2);
        Check.same("in the buffer alone", house.word(16), 0);
        house.drain(0);
        Check.deliverAll(house);
        Check.same("not yet drained", house.word(16), 0);
        house.drain(0);
        Check.same("in the cache", house.word(16), 9);
        house.step(1);
        Check.deliverAll(house);
        Check.same("fetch", house.step(0), 2);
        Check.same("on the shelf", house.word(16), 9);
        Check.same("load", house.step(1), 3);
        // PUT, GETS 0 of core 0; PUT, GETS 1 of core 1.
        Check.yes("GETS of core 1", house.deliver(3));
        Check.yes("PUT waits", house.deliver(0));
        Check.same("PUT waits", house.waiting(0), 1);
        Check.same("the home has old words", house.home(1, 5), 0);
        Check.same("on the shelf", house.word(16), 9);
        Check.yes("DOWN", house.deliver(2));
        Check.same("ACK", house.message(2, 0), ACK);
        Check.same("in ACK and PUT alone", house.word(16), 9);
        Check.same("the home has old words", house.home(1, 5), 0);
        Check.yes("ACK", house.deliver(2));
        Check.same("in the home", house.home(1, 5), 9);
        Check.same("in the home", house.word(16), 9);
        Check.same("memory", house.memory(16), 0);
        Check.deliverAll(house);
        Check.same("word", house.word(16), 9);
        Check.same("load", house.step(1), 2);
        // INV and ACK with words, with nothing else that has them.
        CoreHouse taken = Check.house("li x1,9;sw x1,16(x0);nop;org 32;core 1;sw x0,20(x0);nop;", 2, 1, 1, 2, 1, 8);
        Check.retire(taken, 0, 2);
        taken.drain(0);
        Check.deliverAll(taken);
        taken.drain(0);
        Check.retire(taken, 1, 1);
        taken.drain(1);
        Check.yes("GETM", taken.deliver(0));
        Check.yes("INV", taken.deliver(0));
        message(taken, 0, ACK, 0, 1);
        Check.same("in ACK alone", taken.word(16), 9);
        Check.same("nobody has it", taken.cached(0, 1) + taken.cached(1, 1), 0);
        Check.same("nor the home", taken.home(1, 5), 0);
        Check.yes("ACK", taken.deliver(0));
        message(taken, 0, GIVE_M, 1, 1);
        Check.same("in GIVE and the home", taken.word(16), 9);
        Check.yes("GIVE", taken.deliver(0));
        Check.same("in the other cache", taken.word(16), 9);
        taken.drain(1);
        Check.same("word", taken.word(16), 9);
        Check.same("the other word", taken.word(20), 0);
    }

    /** All four words of a line, on the shelf, in ACK, in the home. */
    private static void fourWordsOfALine() {
        CoreHouse house = Check.house("li x1,11;sw x1,512(x0);li x1,12;sw x1,516(x0);li x1,13;sw x1,520(x0);li x1,14;sw x1,524(x0);"
            + "nop;org 64;core 1;lw x2,512(x0);nop;", 2, 4, 1, 1, 1, 8);
        Check.retire(house, 0, 8);
        house.drain(0);
        Check.deliverAll(house);
        for (int i = 0; i < 4; i++) {
            Check.same("drain", house.drain(0), 1);
        }
        four("in the cache", house);
        house.step(1);
        Check.deliverAll(house);
        Check.same("fetch", house.step(0), 2);
        Check.same("on the shelf", house.core(0, 37), 32);
        four("on the shelf", house);
        Check.same("load", house.step(1), 3);
        Check.yes("GETS", house.deliver(3));
        four("on the shelf", house);
        Check.yes("DOWN", house.deliver(3));
        message(house, 3, ACK, 0, 32);
        four("in ACK", house);
        for (int i = 0; i < 4; i++) {
            Check.same("its words", house.message(3, 5 + i), 11 + i);
        }
        Check.yes("ACK", house.deliver(3));
        four("in the home", house);
        Check.deliverAll(house);
        four("in the other cache", house);
        for (int i = 0; i < 4; i++) {
            Check.same("copy", house.copy(1, 512 + 4 * i), 11 + i);
            Check.same("home", house.home(32, 5 + i), 11 + i);
            Check.same("memory", house.memory(512 + 4 * i), 0);
        }
    }

    private static void four(String where, CoreHouse house) {
        for (int i = 0; i < 4; i++) {
            Check.same(where + ", word " + i, house.word(512 + 4 * i), 11 + i);
        }
    }

    /** Two lines are on their way at once, each with words of its own. */
    private static void wordsOfTwoLines() {
        CoreHouse house = Check.house("li x1,9;sw x1,512(x0);nop;org 32;core 1;li x1,8;sw x1,528(x0);nop;"
            + "org 64;core 2;sw x0,516(x0);nop;org 96;core 3;sw x0,532(x0);nop;", 4, 1, 1, 2, 1, 8);
        for (int c = 0; c < 4; c++) {
            Check.retire(house, c, c < 2 ? 2 : 1);
        }
        for (int c = 0; c < 2; c++) {
            Check.same("drain", house.drain(c), 2);
            Check.deliverAll(house);
            Check.same("drain", house.drain(c), 1);
        }
        Check.same("drain", house.drain(2), 2);
        Check.same("drain", house.drain(3), 2);
        int[] kinds = {GETM, INV, ACK, GIVE_M};
        for (int kind : kinds) {
            Check.same("first", house.message(0, 0), kind);
            Check.same("second", house.message(1, 0), kind);
            Check.same("line 32", house.word(512), 9);
            Check.same("line 33", house.word(528), 8);
            Check.yes("deliver", house.deliver(0));
            Check.same("line 32", house.word(512), 9);
            Check.same("line 33", house.word(528), 8);
            Check.yes("deliver", house.deliver(0));
        }
        Check.same("line 32", house.copy(2, 512), 9);
        Check.same("line 33", house.copy(3, 528), 8);
    }

    /** An ACK that was delivered long ago tells nothing, wherever it was in the pool: newer words are in GIVE. */
    private static void wordBehindAnOldAck() {
        CoreHouse house = Check.house("li x1,9;sw x1,16(x0);sw x1,20(x0);nop;org 32;core 1;li x1,5;sw x1,16(x0);nop;"
            + "org 64;core 2;nop;org 96;core 3;nop;org 128;core 4;nop;", 5, 2, 1, 2, 2, 8);
        Check.retire(house, 0, 3);
        house.drain(0);
        Check.deliverAll(house);
        Check.same("drain", house.drain(0), 1);
        Check.retire(house, 1, 2);
        // Two requests stay in the pool, so that all else is behind them.
        house.step(3);
        house.step(4);
        house.step(2);
        Check.yes("GETS of core 2", house.deliver(2));
        Check.same("drain", house.drain(1), 2);
        Check.yes("GETM of core 1", house.deliver(3));
        Check.yes("GIVE for core 2", house.deliver(2));
        Check.yes("INV", house.deliver(2));
        message(house, 2, DONE, 2, 4);
        message(house, 3, ACK, 0, 1);
        Check.yes("DONE", house.deliver(2));
        Check.same("in ACK alone", house.word(16), 9);
        Check.yes("ACK", house.deliver(2));
        Check.yes("GIVE", house.deliver(2));
        Check.yes("DONE", house.deliver(2));
        Check.same("drain", house.drain(1), 1);
        Check.same("word", house.word(16), 5);
        Check.same("core 0 takes it back", house.drain(0), 2);
        int[] kinds = {GETM, INV, ACK, GIVE_M, DONE};
        for (int kind : kinds) {
            Check.same("kind", house.message(2, 0), kind);
            Check.same("three messages", house.total(1), 3);
            Check.same("the new word", house.word(16), 5);
            Check.yes("deliver", house.deliver(2));
        }
        Check.same("drain", house.drain(0), 1);
        Check.same("the new word", house.word(16), 5);
        Check.same("the other", house.word(20), 9);
    }

    /** A PUT with old words is still on its way while newer ones are in an ACK. */
    private static void wordBesideAnOldPut() {
        CoreHouse house = Check.house("li x1,9;sw x1,16(x0);nop;org 32;core 1;li x1,5;sw x1,16(x0);nop;org 64;core 2;sw x0,20(x0);nop;",
            3, 1, 1, 1, 1, 8);
        Check.retire(house, 0, 2);
        house.drain(0);
        Check.deliverAll(house);
        Check.same("drain", house.drain(0), 1);
        Check.retire(house, 1, 2);
        Check.retire(house, 2, 1);
        Check.same("fetch", house.step(0), 2);
        message(house, 0, PUT, 0, 1);
        Check.same("drain", house.drain(1), 2);
        deliverDownTo(house, 3);
        Check.same("drain", house.drain(1), 1);
        Check.same("word", house.word(16), 5);
        Check.same("drain", house.drain(2), 2);
        int last = house.total(1) - 1;
        message(house, last, GETM, 2, 1);
        Check.yes("GETM", house.deliver(last));
        message(house, last, INV, 1, 1);
        Check.yes("INV", house.deliver(last));
        message(house, last, ACK, 1, 1);
        message(house, 0, PUT, 0, 1);
        Check.same("the old word", house.message(0, 5), 9);
        Check.same("the new one", house.word(16), 5);
        Check.deliverAll(house);
        Check.same("the new one", house.word(16), 5);
    }

    private static void wrongCalls() {
        CoreHouse house = Check.house("nop;org 8176;nop;core 0;", 2, 1, 1, 1, 4, 2);
        Check.retire(house, 1, 1);
        for (int line : new int[] {Integer.MIN_VALUE, -512, -1, 1, 4, 510, 511, 512, 513, 1024, Integer.MAX_VALUE}) {
            Check.fails("home(" + line + ", 0)", NO_ELEMENT, () -> house.home(line, 0));
        }
        for (int what : new int[] {Integer.MIN_VALUE, -1, 10, 11, Integer.MAX_VALUE}) {
            Check.fails("home(0, " + what + ")", NO_ELEMENT, () -> house.home(0, what));
        }
        Check.same("home(0, 9)", house.home(0, 9), 0);
        Check.same("home(0, 0)", house.home(0, 0), 1);
        for (int set : new int[] {Integer.MIN_VALUE, -1, 4, 5, 64, Integer.MAX_VALUE}) {
            Check.same("waiting(" + set + ")", house.waiting(set), NONE);
        }
        Check.same("waiting(3)", house.waiting(3), 0);
        CoreHouse last = Check.house("org 8176;core 0;nop;", 1, 1, 1, 1, 64, 1);
        Check.retire(last, 0, 1);
        Check.same("line 511", last.home(511, 5), 0x13);
        Check.same("the last set", last.waiting(63), 0);
        Check.same("no such set", last.waiting(64), NONE);
        for (int address : new int[] {Integer.MIN_VALUE, -8192, -4, -1, 1, 2, 3, 5, 8189, 8190, 8191, 8192, 8196, Integer.MAX_VALUE}) {
            Check.fails("word(" + address + ")", IndexOutOfBoundsException.class, () -> last.word(address));
            Check.fails("memory(" + address + ")", IndexOutOfBoundsException.class, () -> last.memory(address));
        }
        Check.same("word(8188)", last.word(8188), 0);
        Check.same("word(8176)", last.word(8176), 0x13);
        Check.same("memory(0)", last.memory(0), 0);
    }
}

import java.util.NoSuchElementException;

/** Promises 7, 13 to 15 at their boundaries: a core's buffer, the sets and ways of its cache, its shelf, its request. */
public final class EdgesOfCacheTest {
    private static final int GETS = 0;
    private static final int GETM = 1;
    private static final int PUT = 2;
    private static final int GIVE_E = 7;

    public static void main(String[] args) {
        bufferOfEachSize();
        whichBytesAStoreHas();
        oldestFirst();
        drainOfEachState();
        setsAndWays();
        usedLongestAgo();
        usedByWhatItReads();
        usedByWhatItChanges();
        usedByGive();
        notUsedByViews();
        sharedGoesInSilence();
        aloneGoesToTheShelf();
        freeWayTakesNoOther();
        oneRequestAtATime();
        shelfHasThisLine();
        shelfHasAnother();
        sharedAsksWithoutRoom();
        sharedInTheFirstWay();
        changedFromAlone();
        downAndInv();
        shelfThatHasGone();
        missOfWhatHasGone();
        shelfAgain();
        shelfOfAnotherLine();
        Check.end();
    }

    private static void message(CoreHouse house, int k, int kind, int line) {
        Check.same("kind of message " + k, house.message(k, 0), kind);
        Check.same("line of message " + k, house.message(k, 3), line);
    }

    // ---- the buffer

    private static void bufferOfEachSize() {
        for (int size = 1; size <= 16; size++) {
            CoreHouse house = Check.house("sw x0,64(x0);j -4;", 1, size, 1, 2, 1, 8);
            Check.same("empty", house.drain(0), 0);
            for (int i = 0; i < size; i++) {
                Check.same("stores", house.core(0, 34), i);
                Check.retire(house, 0, 2);
            }
            Check.same("full", house.core(0, 34), size);
            Check.same("one more waits", house.step(0), 4);
            Check.same("still full", house.core(0, 34), size);
            int last = 100 + 3 * (size - 1);
            for (int i = 0; i < 3; i++) {
                int part = i;
                Check.same("the last store", house.core(0, last + i), new int[] {64, 15, 0}[i]);
                Check.fails("one behind the last", NoSuchElementException.class, () -> house.core(0, last + 3 + part));
            }
            Check.same("drain", house.drain(0), 2);
            Check.deliverAll(house);
            Check.same("drain", house.drain(0), 1);
            Check.fails("it went", NoSuchElementException.class, () -> house.core(0, last));
            Check.same("room for one", house.step(0), 1);
            Check.retire(house, 0, 1);
            Check.same("full again", house.step(0), 4);
            for (int i = 0; i < size; i++) {
                Check.same("drain", house.drain(0), 1);
            }
            Check.same("empty", house.drain(0), 0);
            Check.same("changed", house.total(4), size + 1);
            State.stays("drain of an empty buffer", house, () -> house.drain(0));
        }
    }

    private static void whichBytesAStoreHas() {
        String[] words = {"sb", "sb", "sb", "sb", "sh", "sh", "sw"};
        int[] firsts = {0, 1, 2, 3, 0, 2, 0};
        int[] bytes = {1, 2, 4, 8, 3, 12, 15};
        int[] data = {0x88, 0x8800, 0x880000, 0x88000000, 0x7788, 0x77880000, 0x55667788};
        for (int i = 0; i < words.length; i++) {
            for (int address : new int[] {0, 64, 8188}) {
                CoreHouse house = Check.house("li x1,0x55667788;li x2," + address + ";" + words[i] + " x1," + firsts[i] + "(x2);",
                    1, 1, 1, 2, 1, 8);
                Check.retire(house, 0, address == 8188 ? 5 : 4);
                Check.same("the word's address", house.core(0, 100), address);
                Check.same("which bytes", house.core(0, 101), bytes[i]);
                Check.same("these, 0 in others", house.core(0, 102), data[i]);
                Check.same("the trace's address", house.trace(0, 0, 4), address + firsts[i]);
                Check.same("the trace's bytes", house.trace(0, 0, 6), i < 4 ? 0x88 : i < 6 ? 0x7788 : 0x55667788);
            }
        }
    }

    private static void oldestFirst() {
        CoreHouse house = Check.house("li x1,1;li x2,2;sw x1,64(x0);sw x2,64(x0);sb x1,65(x0);", 1, 3, 1, 4, 1, 8);
        Check.retire(house, 0, 5);
        Check.same("drain", house.drain(0), 2);
        Check.deliverAll(house);
        int[] due = {1, 2, 0x102};
        for (int i = 0; i < 3; i++) {
            Check.same("drain", house.drain(0), 1);
            Check.same("word", house.word(64), due[i]);
            Check.same("copy", house.copy(0, 64), due[i]);
            Check.same("left", house.core(0, 34), 2 - i);
        }
    }

    /** With the line not there, as S, as E, as M. */
    private static void drainOfEachState() {
        String text = "a:lw x1,64(x0);sw x1,64(x0);sw x1,68(x0);j a;";
        CoreHouse house = Check.house(text, 2, 2, 1, 4, 1, 8);
        Check.retire(house, 0, 3);
        Check.same("E", house.cached(0, 4), 2);
        Check.same("of E at once", house.drain(0), 1);
        Check.same("M then", house.cached(0, 4), 3);
        Check.same("of M at once", house.drain(0), 1);
        Check.same("M still", house.cached(0, 4), 3);
        Check.same("nothing was sent", house.total(1), 0);
        Check.retire(house, 1, 2);
        Check.same("S", house.cached(1, 4), 1);
        Check.same("of S it waits", house.drain(1), 2);
        message(house, 0, GETM, 4);
        Check.same("S still", house.cached(1, 4), 1);
        Check.same("nothing has changed", house.total(4), 2);
        Check.deliverAll(house);
        Check.same("then it is done", house.drain(1), 1);
        Check.same("M", house.cached(1, 4), 3);
        Check.same("gone", house.cached(0, 4), 0);
        Check.retire(house, 0, 2);
        Check.same("the load brought it back", house.cached(0, 4), 1);
        CoreHouse absent = Check.house("sw x0,64(x0);", 1, 1, 1, 2, 1, 8);
        Check.retire(absent, 0, 1);
        Check.same("of what is not there it waits", absent.drain(0), 2);
        message(absent, 0, GETM, 4);
    }

    // ---- sets and ways

    /** Lines of one set: as many as it has ways stay, one more sends the first away; others sets are left alone. */
    private static void setsAndWays() {
        for (int sets = 1; sets <= 8; sets *= 2) {
            for (int ways = 1; ways <= 4; ways *= 2) {
                if (sets * ways == 1) {
                    continue;
                }
                // The text is in set 0; with one set it takes one of its ways.
                int room = sets == 1 ? ways - 1 : ways;
                CoreHouse house = Check.house("a:lw x2,16(x1);addi x1,x1," + 16 * sets + ";j a;", 1, 1, sets, ways, 8, 8);
                for (int i = 0; i <= room; i++) {
                    Check.retire(house, 0, 1);
                    for (int j = 0; j <= i; j++) {
                        int due = j > i - room ? 2 : 0;
                        Check.same(sets + " sets, " + ways + " ways: line " + (1 + j * sets) + " behind " + i,
                            house.cached(0, 1 + j * sets), due);
                    }
                    Check.same("the text", house.cached(0, 0), 2);
                    Check.retire(house, 0, 2);
                }
            }
        }
        // Eight sets of one way: lines 1 to 7 and 511 each in one of its own but for the last two.
        CoreHouse eight = Check.house("a:lw x2,16(x1);addi x1,x1,16;j a;", 1, 1, 8, 1, 8, 8);
        for (int i = 0; i < 7; i++) {
            Check.retire(eight, 0, 3);
        }
        for (int line = 0; line < 8; line++) {
            Check.same("line " + line, eight.cached(0, line), 2);
        }
        CoreHouse last = Check.house("lw x1,-16(x0);lw x1,112(x0);", 1, 1, 8, 1, 8, 8);
        Check.retire(last, 0, 1);
        Check.same("line 511", last.cached(0, 511), 2);
        Check.retire(last, 0, 1);
        Check.same("line 7 has its set", last.cached(0, 511), 0);
        Check.same("line 7", last.cached(0, 7), 2);
    }

    /** The text is in set 0 (lines 0 and 2), the data in set 1 (lines 1, 3, 5) of two ways. */
    private static CoreHouse twoWays(String text) {
        return Check.house(text, 1, 4, 2, 2, 8, 8);
    }

    private static void oneWent(CoreHouse house, int went) {
        Check.same("line 5 came", house.cached(0, 5), 2);
        Check.same("line 1", house.cached(0, 1) > 0 ? 1 : 0, went == 1 ? 0 : 1);
        Check.same("line 3", house.cached(0, 3) > 0 ? 1 : 0, went == 3 ? 0 : 1);
    }

    private static void usedLongestAgo() {
        CoreHouse first = twoWays("lw x1,16(x0);lw x1,48(x0);lw x1,80(x0);");
        Check.retire(first, 0, 3);
        oneWent(first, 1);
        CoreHouse other = twoWays("lw x1,48(x0);lw x1,16(x0);lw x1,80(x0);");
        Check.retire(other, 0, 3);
        oneWent(other, 3);
        CoreHouse again = twoWays("lw x1,16(x0);lw x1,48(x0);lb x1,19(x0);lw x1,80(x0);");
        Check.retire(again, 0, 4);
        oneWent(again, 3);
        // A miss that waits uses nothing: the load of line 5 is tried many times.
        CoreHouse tried = twoWays("lw x1,16(x0);lw x1,48(x0);lw x1,16(x0);lw x1,80(x0);");
        Check.retire(tried, 0, 3);
        for (int i = 0; i < 5; i++) {
            Check.same("waits", tried.step(0), 3);
        }
        Check.deliverAll(tried);
        Check.same("load", tried.step(0), 1);
        oneWent(tried, 3);
        // A fetch uses its line at each step, also of a load that waits.
        CoreHouse fetch = Check.house("lw x1,16(x0);lw x1,32(x0);lw x1,48(x0);", 1, 1, 1, 2, 1, 8);
        Check.retire(fetch, 0, 3);
        Check.same("the text stays", fetch.cached(0, 0), 2);
        Check.same("line 3", fetch.cached(0, 3), 2);
    }

    private static void usedByWhatItReads() {
        // All that is read is in the buffer: line 1 is not used by it.
        CoreHouse buffer = twoWays("lw x1,16(x0);lw x1,48(x0);sw x0,16(x0);j a;org 32;a:lw x1,16(x0);lw x1,80(x0);");
        Check.retire(buffer, 0, 6);
        oneWent(buffer, 1);
        // One byte is not: it is used.
        CoreHouse part = twoWays("lw x1,16(x0);lw x1,48(x0);sb x0,16(x0);j a;org 32;a:lh x1,16(x0);lw x1,80(x0);");
        Check.retire(part, 0, 6);
        oneWent(part, 3);
        // A store alone uses nothing.
        CoreHouse store = twoWays("lw x1,16(x0);lw x1,48(x0);sw x0,16(x0);j a;org 32;a:lw x1,80(x0);");
        Check.retire(store, 0, 5);
        oneWent(store, 1);
    }

    private static void usedByWhatItChanges() {
        CoreHouse drain = twoWays("lw x1,16(x0);lw x1,48(x0);sw x0,16(x0);j a;org 32;a:lw x1,80(x0);");
        Check.retire(drain, 0, 4);
        Check.same("drain", drain.drain(0), 1);
        Check.retire(drain, 0, 1);
        oneWent(drain, 3);
        CoreHouse atomic = twoWays("li x2,16;lw x1,16(x0);lw x1,48(x0);j a;org 32;a:amoadd x1,x0,(x2);lw x1,80(x0);");
        Check.retire(atomic, 0, 6);
        oneWent(atomic, 3);
    }

    /** What GIVE brings counts as used, though nothing has read it yet. */
    private static void usedByGive() {
        CoreHouse house = twoWays("lw x1,16(x0);sw x0,48(x0);lw x1,80(x0);");
        Check.retire(house, 0, 2);
        Check.same("drain", house.drain(0), 2);
        Check.deliverAll(house);
        Check.same("line 3", house.cached(0, 3), 3);
        Check.retire(house, 0, 1);
        oneWent(house, 1);
        Check.same("line 3 stays", house.cached(0, 3), 3);
    }

    private static void notUsedByViews() {
        CoreHouse house = twoWays("lw x1,16(x0);lw x1,48(x0);lw x1,80(x0);");
        Check.retire(house, 0, 2);
        for (int i = 0; i < 3; i++) {
            Check.same("copy", house.copy(0, 16), 0);
            Check.same("cached", house.cached(0, 1), 2);
            Check.same("word", house.word(16), 0);
            Check.same("home", house.home(1, 0), 0);
        }
        Check.retire(house, 0, 1);
        oneWent(house, 1);
    }

    // ---- misses

    /** Core 1 has lines 0, 2 and 1, 3 as S, since core 0 has them too. */
    private static CoreHouse shared(String behind) {
        String text = "lw x1,16(x0);lw x1,48(x0);j a;org 32;a:" + behind;
        CoreHouse house = Check.house(text, 2, 4, 2, 2, 8, 8);
        Check.retire(house, 0, 3);
        Check.retire(house, 1, 3);
        Check.same("S", house.cached(1, 1), 1);
        Check.same("S", house.cached(1, 3), 1);
        return house;
    }

    private static void sharedGoesInSilence() {
        CoreHouse house = shared("lw x1,80(x0);nop;");
        house.step(1);
        Check.deliverAll(house);
        Check.same("load", house.step(1), 3);
        Check.same("only GETS", house.total(1), 1);
        message(house, 0, GETS, 5);
        Check.same("line 1 went", house.cached(1, 1), 0);
        Check.same("line 3 stays", house.cached(1, 3), 1);
        Check.same("no shelf", house.core(1, 37), CoreHouse.NONE);
        Check.same("the home does not know", house.home(1, 1), 3);
        Check.deliverAll(house);
        Check.same("load", house.step(1), 1);
    }

    private static void aloneGoesToTheShelf() {
        for (int state = 2; state <= 3; state++) {
            String change = state == 3 ? "sw x2,16(x0);" : "nop;";
            CoreHouse house = twoWays("li x2,7;lw x1,16(x0);lw x1,48(x0);j a;org 32;a:" + change
                + "lw x1,48(x0);lw x1,80(x0);org 16;word 5;");
            Check.retire(house, 0, 5);
            Check.same("drain", house.drain(0), state == 3 ? 1 : 0);
            Check.retire(house, 0, 1);
            Check.same("its state", house.cached(0, 1), state);
            Check.same("load", house.step(0), 3);
            Check.same("PUT and GETS", house.total(1), 2);
            message(house, 0, PUT, 1);
            Check.same("with words", house.message(0, 4), 1);
            Check.same("its word", house.message(0, 5), state == 3 ? 7 : 5);
            message(house, 1, GETS, 5);
            Check.same("not there any more", house.cached(0, 1), 0);
            Check.fails("no copy", NoSuchElementException.class, () -> house.copy(0, 16));
            Check.same("on the shelf", house.core(0, 37), 1);
            Check.same("word", house.word(16), state == 3 ? 7 : 5);
            Check.same("one miss", house.core(0, 36), 5);
        }
    }

    /** A way that has nothing is taken, though another was used longer ago. */
    private static void freeWayTakesNoOther() {
        // Core 0 takes line 3 for itself, so core 1 has a free way beside line 1, which was used longest ago.
        CoreHouse taken = Check.house("lw x1,16(x0);lw x1,48(x0);j a;org 32;a:lw x1,80(x0);nop;org 64;core 0;sw x0,48(x0);nop;",
            2, 4, 2, 2, 8, 8);
        Check.retire(taken, 1, 3);
        Check.retire(taken, 0, 1);
        Check.same("drain", taken.drain(0), 2);
        Check.deliverAll(taken);
        Check.same("taken from core 1", taken.cached(1, 3), 0);
        Check.retire(taken, 1, 1);
        Check.same("line 1 stays", taken.cached(1, 1), 2);
        Check.same("line 5 came", taken.cached(1, 5), 2);
        Check.same("nothing on the shelf", taken.core(1, 37), CoreHouse.NONE);
    }

    private static void oneRequestAtATime() {
        CoreHouse house = twoWays("sw x0,16(x0);lw x1,48(x0);");
        Check.retire(house, 0, 1);
        Check.same("the drain asks", house.drain(0), 2);
        Check.same("request", house.core(0, 36), 1);
        Check.same("the load must wait", house.step(0), 3);
        Check.same("one message", house.total(1), 1);
        Check.same("misses", house.core(0, 38), 2);
        Check.same("request", house.core(0, 36), 1);
        Check.yes("GETM", house.deliver(0));
        Check.same("still out", house.step(0), 3);
        Check.same("one message", house.total(1), 1);
        Check.yes("GIVE", house.deliver(0));
        Check.same("out no more", house.core(0, 36), CoreHouse.NONE);
        Check.same("now the load asks, though DONE has not come", house.step(0), 3);
        Check.same("request", house.core(0, 36), 3);
        Check.same("misses", house.core(0, 38), 3);
        message(house, 1, GETS, 3);
        Check.same("the other way round", house.drain(0), 1);
        // With a request out no line goes to make room.
        CoreHouse full = Check.house("sw x0,16(x0);lw x1,32(x0);", 1, 1, 1, 2, 1, 8);
        Check.retire(full, 0, 1);
        Check.same("drain asks", full.drain(0), 2);
        Check.same("load waits", full.step(0), 3);
        Check.same("the text stays", full.cached(0, 0), 2);
        Check.same("no shelf", full.core(0, 37), CoreHouse.NONE);
    }

    /** One way: line 0 is the text, line 1 the data; the text comes back while the data is on the shelf. */
    private static CoreHouse shelved() {
        CoreHouse house = Check.house("a:sw x0,16(x0);sw x0,20(x0);sw x0,32(x0);j a;", 1, 4, 1, 1, 1, 8);
        Check.retire(house, 0, 1);
        Check.same("drain", house.drain(0), 2);
        Check.deliverAll(house);
        Check.same("drain", house.drain(0), 1);
        Check.same("fetch", house.step(0), 2);
        message(house, 0, PUT, 1);
        message(house, 1, GETS, 0);
        Check.yes("GETS", house.deliver(1));
        message(house, 1, GIVE_E, 0);
        Check.yes("GIVE", house.deliver(1));
        Check.yes("DONE", house.deliver(1));
        Check.same("only PUT is left", house.total(1), 1);
        Check.same("shelf", house.core(0, 37), 1);
        return house;
    }

    private static void shelfHasThisLine() {
        CoreHouse house = shelved();
        Check.same("store", house.step(0), 1);
        Check.same("drain of the shelf's line", house.drain(0), 2);
        Check.same("nothing is sent", house.total(1), 1);
        Check.same("no request", house.core(0, 36), CoreHouse.NONE);
        Check.same("the text stays", house.cached(0, 0), 2);
        Check.yes("PUT", house.deliver(0));
        Check.same("till BACK", house.drain(0), 2);
        Check.same("nothing is sent but BACK", house.total(1), 1);
        Check.same("shelf", house.core(0, 37), 1);
        Check.yes("BACK", house.deliver(0));
        Check.same("empty", house.core(0, 37), CoreHouse.NONE);
        Check.same("now it asks", house.drain(0), 2);
        message(house, 0, PUT, 0);
        message(house, 1, GETM, 1);
        Check.same("the text is on the shelf", house.core(0, 37), 0);
        // Nothing of line 1 was lost on its way.
        Check.deliverAll(house);
        Check.same("drain", house.drain(0), 1);
        Check.same("changed", house.total(4), 2);
    }

    private static void shelfHasAnother() {
        CoreHouse house = shelved();
        Check.same("store", house.step(0), 1);
        Check.same("store", house.step(0), 1);
        Check.yes("PUT", house.deliver(0));
        Check.yes("BACK", house.deliver(0));
        Check.same("drain", house.drain(0), 2);
        Check.yes("GETM", house.deliver(1));
        Check.yes("GIVE", house.deliver(1));
        Check.yes("DONE", house.deliver(1));
        Check.same("shelf", house.core(0, 37), 0);
        Check.same("drain", house.drain(0), 1);
        // The next store is of line 2, and line 1 would have to go where line 0 still is.
        State.stays("a miss with another line on the shelf", house, () -> house.drain(0));
        Check.same("it waits", house.drain(0), 2);
        Check.same("no request", house.core(0, 36), CoreHouse.NONE);
        Check.same("line 1 stays", house.cached(0, 1), 3);
        Check.yes("PUT", house.deliver(0));
        State.stays("till BACK", house, () -> house.drain(0));
        Check.yes("BACK", house.deliver(0));
        Check.same("now it goes", house.drain(0), 2);
        message(house, 0, PUT, 1);
        message(house, 1, GETM, 2);
        // A shelf with another line holds nothing up where a way is free, or a shared line goes.
        CoreHouse free = twoWays("lw x1,16(x0);lw x1,48(x0);lw x1,80(x0);j a;org 32;a:nop;");
        Check.retire(free, 0, 2);
        Check.same("load", free.step(0), 3);
        message(free, 0, PUT, 1);
        Check.yes("GETS", free.deliver(1));
        Check.yes("GIVE", free.deliver(1));
        Check.same("load", free.step(0), 1);
        Check.same("jump", free.step(0), 1);
        Check.same("line 2 has a free way", free.step(0), 2);
        Check.same("request", free.core(0, 36), 2);
        Check.same("shelf", free.core(0, 37), 1);
    }

    /** S for M: GETM, and no other line goes, though all ways are taken. */
    private static void sharedAsksWithoutRoom() {
        CoreHouse house = shared("sw x0,16(x0);nop;");
        Check.retire(house, 1, 1);
        Check.same("drain", house.drain(1), 2);
        Check.same("one message", house.total(1), 1);
        message(house, 0, GETM, 1);
        Check.same("line 1 stays", house.cached(1, 1), 1);
        Check.same("line 3 stays", house.cached(1, 3), 1);
        Check.same("a miss", house.core(1, 36), 1);
        Check.deliverAll(house);
        Check.same("in its way", house.cached(1, 1), 3);
        Check.same("line 3 stays", house.cached(1, 3), 1);
        Check.same("drain", house.drain(1), 1);
    }

    /** The same for the first way of the first set, with another line in the second one. */
    private static void sharedInTheFirstWay() {
        CoreHouse house = Check.house("lw x1,64(x0);sw x0,12(x0);nop;", 2, 1, 1, 2, 1, 8);
        Check.retire(house, 1, 1);
        Check.retire(house, 0, 2);
        Check.same("the text", house.cached(0, 0), 1);
        Check.same("the data", house.cached(0, 4), 1);
        Check.same("drain", house.drain(0), 2);
        Check.same("one message", house.total(1), 1);
        message(house, 0, GETM, 0);
        Check.same("the text stays", house.cached(0, 0), 1);
        Check.same("the data stays", house.cached(0, 4), 1);
        Check.deliverAll(house);
        Check.same("the text, alone", house.cached(0, 0), 3);
        Check.same("the data stays", house.cached(0, 4), 1);
        Check.same("drain", house.drain(0), 1);
        // With a free way it is in its own way all the same.
        CoreHouse free = Check.house("nop;sw x0,12(x0);nop;", 2, 1, 1, 2, 1, 8);
        Check.retire(free, 1, 1);
        Check.retire(free, 0, 2);
        Check.same("drain", free.drain(0), 2);
        Check.deliverAll(free);
        Check.same("the text, alone", free.cached(0, 0), 3);
        Check.same("drain", free.drain(0), 1);
        Check.same("its word", free.copy(0, 12), 0);
    }

    private static void changedFromAlone() {
        CoreHouse house = Check.house("a:amoadd x1,x2,(x0);amoadd x1,x2,(x0);j a;", 2, 1, 1, 1, 1, 8);
        house.step(0);
        Check.deliverAll(house);
        Check.same("E", house.cached(0, 0), 2);
        Check.same("at once", house.step(0), 1);
        Check.same("M", house.cached(0, 0), 3);
        Check.same("at once", house.step(0), 1);
        Check.same("nothing was sent", house.total(1), 0);
        Check.same("changed, also to what they were", house.total(4), 2);
        house.step(1);
        Check.deliverAll(house);
        Check.same("S", house.cached(0, 0), 1);
        Check.same("S", house.cached(1, 0), 1);
        Check.same("waits", house.step(1), 6);
        Check.same("not changed yet", house.total(4), 2);
        message(house, 0, GETM, 0);
    }

    /** What INV and DOWN find: M, E, S, and nothing. */
    private static void downAndInv() {
        // DOWN with E and M: words in both cases.
        for (int state = 2; state <= 3; state++) {
            CoreHouse house = Check.house("nop;amoadd x1,x2,(x0);j 4;", 2, 1, 1, 1, 1, 8);
            Check.retire(house, 0, state == 3 ? 2 : 1);
            Check.same("state", house.cached(0, 0), state);
            house.step(1);
            Check.yes("GETS", house.deliver(0));
            Check.yes("DOWN", house.deliver(0));
            Check.same("ACK", house.message(0, 0), 5);
            Check.same("with words", house.message(0, 4), 1);
            Check.same("S", house.cached(0, 0), 1);
            Check.yes("ACK", house.deliver(0));
            Check.same("CHANGED also of E", house.home(0, 4), 1);
        }
        // INV with S: without words, and the home's words stay not changed.
        CoreHouse shared = Check.house("lw x1,64(x0);nop;org 32;core 1;lw x1,64(x0);sw x1,64(x0);", 2, 1, 1, 4, 1, 8);
        Check.retire(shared, 0, 1);
        Check.retire(shared, 1, 2);
        Check.same("S", shared.cached(0, 4), 1);
        shared.drain(1);
        Check.yes("GETM", shared.deliver(0));
        Check.yes("INV", shared.deliver(0));
        Check.same("ACK", shared.message(0, 0), 5);
        Check.same("without words", shared.message(0, 4), 0);
        Check.same("0 without", shared.message(0, 5), 0);
        Check.same("gone", shared.cached(0, 4), 0);
        // INV with nothing: core 0 let go of its shared line in silence.
        CoreHouse none = Check.house("lw x1,16(x0);j a;org 32;a:lw x1,48(x0);nop;org 64;core 1;lw x1,16(x0);sw x1,16(x0);",
            2, 1, 2, 1, 8, 8);
        Check.retire(none, 0, 1);
        Check.retire(none, 1, 2);
        Check.retire(none, 0, 2);
        Check.same("not there", none.cached(0, 1), 0);
        Check.same("but for the home", none.home(1, 1), 3);
        none.drain(1);
        Check.yes("GETM", none.deliver(0));
        Check.same("INV", none.message(0, 0), 3);
        Check.same("to core 0", none.message(0, 2), 0);
        Check.yes("INV", none.deliver(0));
        Check.same("ACK", none.message(0, 0), 5);
        Check.same("without words", none.message(0, 4), 0);
        Check.same("line 3 stays", none.cached(0, 3), 2);
        Check.deliverAll(none);
        Check.same("drain", none.drain(1), 1);
    }

    /** What the shelf had is sent once: a second INV finds nothing, and the shelf is taken till BACK. */
    private static void shelfThatHasGone() {
        // Core 0 has line 1 as M on its shelf; core 1 reads it (DOWN), then core 2 takes it (INV to both).
        CoreHouse house = Check.house("li x1,9;sw x1,16(x0);nop;nop;org 32;core 1;lw x1,16(x0);nop;org 64;core 2;sw x0,20(x0);nop;",
            3, 1, 1, 1, 1, 8);
        Check.retire(house, 0, 2);
        house.drain(0);
        Check.deliverAll(house);
        Check.same("drain", house.drain(0), 1);
        Check.same("fetch", house.step(1), 2);
        Check.deliverAll(house);
        Check.retire(house, 2, 1);
        Check.same("fetch", house.step(0), 2);
        message(house, 0, PUT, 1);
        message(house, 1, GETS, 0);
        Check.same("load", house.step(1), 3);
        Check.yes("GETS of core 1", house.deliver(3));
        Check.same("DOWN", house.message(3, 0), 4);
        Check.yes("DOWN", house.deliver(3));
        Check.same("ACK with words", house.message(3, 4), 1);
        Check.same("its word", house.message(3, 5), 9);
        Check.same("the shelf is taken all the same", house.core(0, 37), 1);
        Check.yes("ACK", house.deliver(3));
        Check.yes("GIVE S", house.deliver(3));
        Check.yes("DONE", house.deliver(3));
        Check.same("both are sharers", house.home(1, 1), 3);
        Check.same("drain", house.drain(2), 2);
        int last = house.total(1) - 1;
        message(house, last, GETM, 1);
        Check.yes("GETM", house.deliver(last));
        Check.same("INV to core 0", house.message(last, 2), 0);
        Check.yes("INV", house.deliver(last));
        int ack = house.total(1) - 1;
        Check.same("ACK", house.message(ack, 0), 5);
        Check.same("of core 0", house.message(ack, 1), 0);
        Check.same("without words now", house.message(ack, 4), 0);
        Check.same("word", house.word(16), 9);
        Check.deliverAll(house);
        Check.same("drain", house.drain(2), 1);
        Check.same("word", house.word(16), 9);
        Check.same("word", house.word(20), 0);
        Check.same("shelf", house.core(0, 37), CoreHouse.NONE);
        Check.same("PUT came too late for its words", house.home(1, 0), 2);
    }

    /** A line that has gone from the shelf is not asked for till BACK: its PUT would come behind a later loan. */
    private static void missOfWhatHasGone() {
        // Core 0 has line 2 as S, so nothing but its shelf keeps it from asking for line 1.
        CoreHouse house = Check.house("li x1,9;sw x1,16(x0);lw x2,32(x0);sw x0,20(x0);"
            + "org 64;core 1;lw x1,32(x0);lw x1,16(x0);nop;", 2, 4, 1, 2, 1, 8);
        Check.retire(house, 1, 1);
        Check.retire(house, 0, 2);
        house.drain(0);
        Check.deliverAll(house);
        Check.same("drain", house.drain(0), 1);
        Check.same("load", house.step(0), 3);
        message(house, 0, PUT, 1);
        for (int i = 0; i < 5; i++) {
            Check.yes("GETS, DOWN, ACK, GIVE, DONE", house.deliver(1));
        }
        Check.same("line 2 is shared", house.cached(0, 2), 1);
        Check.same("load", house.step(0), 1);
        Check.same("store", house.step(0), 1);
        Check.same("load of core 1", house.step(1), 3);
        message(house, 1, GETS, 1);
        Check.yes("GETS", house.deliver(1));
        Check.yes("DOWN", house.deliver(1));
        Check.same("ACK with words", house.message(1, 4), 1);
        State.stays("a miss of what has gone", house, () -> house.drain(0));
        Check.yes("ACK", house.deliver(1));
        Check.yes("GIVE S", house.deliver(1));
        Check.yes("DONE", house.deliver(1));
        State.stays("a miss of what another has", house, () -> house.drain(0));
        Check.yes("PUT", house.deliver(0));
        State.stays("a miss ahead of BACK", house, () -> house.drain(0));
        Check.same("it waits", house.drain(0), 2);
        Check.same("no request", house.core(0, 36), CoreHouse.NONE);
        Check.same("shelf", house.core(0, 37), 1);
        Check.yes("BACK", house.deliver(0));
        Check.same("now it asks", house.drain(0), 2);
        Check.same("request", house.core(0, 36), 1);
        message(house, 0, GETM, 1);
        Check.same("line 2 has gone", house.cached(0, 2), 0);
        Check.deliverAll(house);
        Check.same("drain", house.drain(0), 1);
        Check.same("word", house.word(16), 9);
    }

    /** A shelf that was emptied by DOWN, then by BACK, has the next line with its words. */
    private static void shelfAgain() {
        CoreHouse house = Check.house("j a;org 16;a:j b;org 32;b:nop;org 0;core 1;", 2, 1, 1, 1, 1, 8);
        Check.retire(house, 0, 1);
        for (int line = 0; line < 2; line++) {
            Check.same("fetch", house.step(0), 2);
            message(house, 0, PUT, line);
            message(house, 1, GETS, line + 1);
            Check.same("fetch", house.step(1), 2);
            message(house, 2, GETS, line);
            Check.yes("GETS", house.deliver(2));
            Check.same("DOWN", house.message(2, 0), 4);
            Check.yes("DOWN", house.deliver(2));
            Check.same("ACK", house.message(2, 0), 5);
            Check.same("with words", house.message(2, 4), 1);
            Check.same("its word", house.message(2, 5), 0x0100006f);
            Check.deliverAll(house);
            Check.same("shelf", house.core(0, 37), CoreHouse.NONE);
            Check.same("jump", house.step(0), 1);
            Check.same("jump", house.step(1), 1);
        }
    }

    /** INV of a line leaves the shelf alone if that has another. */
    private static void shelfOfAnotherLine() {
        CoreHouse house = Check.house("lw x1,80(x0);lw x1,96(x0);nop;org 32;core 1;lw x1,0(x0);sw x0,12(x0);nop;"
            + "org 128;core 2;lw x1,80(x0);nop;org 80;word 7;", 3, 1, 1, 2, 1, 8);
        Check.retire(house, 0, 1);
        Check.retire(house, 1, 2);
        house.step(2);
        Check.deliverAll(house);
        Check.same("load", house.step(0), 3);
        message(house, 0, PUT, 5);
        message(house, 1, GETS, 6);
        Check.same("drain", house.drain(1), 2);
        Check.yes("GETM", house.deliver(2));
        Check.same("INV", house.message(2, 0), 3);
        Check.same("of line 0", house.message(2, 3), 0);
        Check.yes("INV", house.deliver(2));
        Check.same("ACK without words", house.message(2, 4), 0);
        Check.same("load", house.step(2), 3);
        Check.yes("GETS", house.deliver(3));
        Check.same("DOWN", house.message(3, 0), 4);
        Check.yes("DOWN", house.deliver(3));
        Check.same("ACK", house.message(3, 0), 5);
        Check.same("with words", house.message(3, 4), 1);
        Check.same("its word", house.message(3, 5), 7);
        Check.deliverAll(house);
        Check.same("load", house.step(2), 1);
        Check.same("its register", house.core(2, 1), 7);
    }
}

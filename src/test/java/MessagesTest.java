import java.util.NoSuchElementException;

/** Promises 7, 8, 9, 20: drain, deliver, deliverOn, message; how lines are lent, taken back and recalled. */
public final class MessagesTest {
    private static final int GETS = 0;
    private static final int GETM = 1;
    private static final int PUT = 2;
    private static final int INV = 3;
    private static final int DOWN = 4;
    private static final int ACK = 5;
    private static final int GIVE_S = 6;
    private static final int GIVE_E = 7;
    private static final int GIVE_M = 8;
    private static final int BACK = 9;
    private static final int DONE = 10;
    private static final int HOME = 16;

    public static void main(String[] args) {
        drains();
        wrongCalls();
        lentAlone();
        lentToSeveral();
        taken();
        upgradeThatLoses();
        goesBack();
        shelfAnswers();
        shelfIsTaken();
        recalled();
        recalledTwice();
        heldUp();
        longestAgo();
        channels();
        Check.end();
    }

    /** The k-th message is of this kind, from, to, about this line, with words or without. */
    private static void sent(CoreHouse house, int k, int kind, int from, int to, int line, boolean words) {
        int[] due = {kind, from, to, line, words ? 1 : 0};
        for (int what = 0; what < due.length; what++) {
            Check.same("message " + k + " of kind " + kind + ", " + what, house.message(k, what), due[what]);
        }
        int channel = kind <= PUT ? 0 : kind == INV || kind == DOWN || kind == BACK ? 1 : 2;
        Check.same("its channel", house.message(k, 9), channel);
        for (int what = 5; what <= 8 && !words; what++) {
            Check.same("no words", house.message(k, what), 0);
        }
    }

    private static void alone(CoreHouse house, int kind, int from, int to, int line, boolean words) {
        Check.same("messages", house.total(1), 1);
        sent(house, 0, kind, from, to, line, words);
    }

    private static void drains() {
        CoreHouse house = Check.house("li x1,0x11223344;sw x1,64(x0);sb x0,65(x0);sh x1,70(x0);nop;", 2, 4, 1, 4, 2, 4);
        Check.same("empty", house.drain(0), 0);
        Check.retire(house, 0, 5);
        Check.same("three stores", house.core(0, 34), 3);
        Check.same("waits", house.drain(0), 2);
        alone(house, GETM, 0, HOME, 4, false);
        Check.same("waits", house.drain(0), 2);
        Check.same("asked once", house.total(1), 1);
        Check.same("still three", house.core(0, 34), 3);
        Check.deliverAll(house);
        Check.same("changed none yet", house.total(4), 0);
        Check.same("done", house.drain(0), 1);
        Check.same("the oldest went", house.core(0, 101), 2);
        Check.same("its word", house.word(64), 0x11223344);
        Check.same("done", house.drain(0), 1);
        Check.same("its word", house.word(64), 0x11220044);
        Check.same("done", house.drain(0), 1);
        Check.same("its word", house.word(68), 0x33440000);
        Check.same("empty", house.drain(0), 0);
        Check.same("three changed", house.total(4), 3);
        Check.same("memory behind the home has nothing of it", house.memory(64), 0);
        Check.fails("drain(-1)", IndexOutOfBoundsException.class, () -> house.drain(-1));
        Check.fails("drain(2)", IndexOutOfBoundsException.class, () -> house.drain(2));
    }

    private static void wrongCalls() {
        CoreHouse house = Check.house("nop;", 2, 1, 1, 1, 2, 1);
        Check.no("deliver of an empty pool", house.deliver(0));
        house.step(0);
        house.step(1);
        Check.no("deliver(2)", house.deliver(2));
        Check.no("deliver(-1)", house.deliver(-1));
        Check.no("deliver(least)", house.deliver(Integer.MIN_VALUE));
        Check.no("deliver(most)", house.deliver(Integer.MAX_VALUE));
        Check.no("deliverOn(1, 0)", house.deliverOn(1, 0));
        Check.no("deliverOn(0, 2)", house.deliverOn(0, 2));
        Check.no("deliverOn(0, -1)", house.deliverOn(0, -1));
        Check.no("deliverOn(3, 0)", house.deliverOn(3, 0));
        Check.no("deliverOn(-1, 0)", house.deliverOn(-1, 0));
        Check.same("nothing was delivered", house.total(3), 0);
        Check.fails("message(2, 0)", NoSuchElementException.class, () -> house.message(2, 0));
        Check.fails("message(-1, 0)", NoSuchElementException.class, () -> house.message(-1, 0));
        Check.fails("message(0, 10)", NoSuchElementException.class, () -> house.message(0, 10));
        Check.fails("message(0, -1)", NoSuchElementException.class, () -> house.message(0, -1));
        Check.yes("deliver(1)", house.deliver(1));
        Check.same("one delivered", house.total(3), 1);
        sent(house, 0, GETS, 0, HOME, 0, false);
        sent(house, 1, GIVE_E, HOME, 1, 0, true);
    }

    private static void lentAlone() {
        CoreHouse house = Check.house("nop;word 5;word 6;word 7;", 1, 1, 1, 1, 1, 1);
        house.step(0);
        alone(house, GETS, 0, HOME, 0, false);
        Check.same("request", house.core(0, 36), 0);
        Check.same("misses", house.core(0, 38), 1);
        Check.yes("deliver", house.deliver(0));
        alone(house, GIVE_E, HOME, 0, 0, true);
        int[] words = {0x13, 5, 6, 7};
        for (int i = 0; i < 4; i++) {
            Check.same("its words", house.message(0, 5 + i), words[i]);
            Check.same("the home's words", house.home(0, 5 + i), words[i]);
        }
        Check.same("owner", house.home(0, 0), 0);
        Check.same("about", house.home(0, 2), 0);
        Check.yes("deliver", house.deliver(0));
        alone(house, DONE, 0, HOME, 0, false);
        Check.same("as E", house.cached(0, 0), 2);
        Check.same("no request", house.core(0, 36), CoreHouse.NONE);
        Check.same("still about it", house.home(0, 2), 0);
        Check.yes("deliver", house.deliver(0));
        Check.same("about nothing", house.home(0, 2), CoreHouse.NONE);
        Check.same("nothing more", house.total(1), 0);
    }

    /** Core 0 has line 4 as M with 9 in it; all have the text's line 0. */
    private static CoreHouse owned(int cores) {
        CoreHouse house = Check.house("core 0;li x1,9;sw x1,64(x0);nop;core 1;core 2;core 3;org 12;lw x2,64(x0);"
            + "sw x1,68(x0);ecall;", cores, 2, 1, 4, 4, 8);
        Check.retire(house, 0, 2);
        Check.same("drain", house.drain(0), 2);
        Check.deliverAll(house);
        Check.same("drain", house.drain(0), 1);
        Check.same("M", house.cached(0, 4), 3);
        for (int c = 1; c < cores; c++) {
            house.step(c);
            Check.deliverAll(house);
        }
        return house;
    }

    private static void lentToSeveral() {
        CoreHouse house = owned(4);
        Check.same("core 1 waits", house.step(1), 3);
        alone(house, GETS, 1, HOME, 4, false);
        house.deliver(0);
        alone(house, DOWN, HOME, 0, 4, false);
        Check.same("acks due", house.home(4, 3), 1);
        Check.same("the owner stays till then", house.home(4, 0), 0);
        Check.same("the home has old words", house.home(4, 5), 0);
        Check.same("word", house.word(64), 9);
        house.deliver(0);
        alone(house, ACK, 0, HOME, 4, true);
        Check.same("S now", house.cached(0, 4), 1);
        Check.same("word in a message alone", house.word(64), 9);
        house.deliver(0);
        alone(house, GIVE_S, HOME, 1, 4, true);
        Check.same("its word", house.message(0, 5), 9);
        Check.same("no owner", house.home(4, 0), CoreHouse.NONE);
        Check.same("sharers", house.home(4, 1), 3);
        Check.same("changed", house.home(4, 4), 1);
        Check.same("no ack due", house.home(4, 3), 0);
        Check.same("about core 1", house.home(4, 2), 1);
        Check.same("core 2 waits", house.step(2), 3);
        sent(house, 1, GETS, 2, HOME, 4, false);
        house.deliver(1);
        Check.same("behind it", house.waiting(0), 1);
        house.deliver(0);
        alone(house, DONE, 1, HOME, 4, false);
        house.deliver(0);
        Check.same("taken", house.waiting(0), 0);
        alone(house, GIVE_S, HOME, 2, 4, true);
        Check.same("sharers", house.home(4, 1), 7);
        Check.deliverAll(house);
        Check.same("S", house.cached(2, 4), 1);
        Check.same("a load", house.step(1), 1);
        Check.same("its register", house.core(1, 2), 9);
    }

    private static void taken() {
        CoreHouse house = owned(4);
        for (int c = 1; c < 4; c++) {
            Check.retire(house, c, 1);
        }
        Check.same("sharers", house.home(4, 1), 15);
        Check.same("a store", house.step(2), 2);
        Check.deliverAll(house);
        Check.same("a store", house.step(2), 1);
        Check.same("its drain waits", house.drain(2), 2);
        alone(house, GETM, 2, HOME, 4, false);
        house.deliver(0);
        Check.same("three are told", house.total(1), 3);
        sent(house, 0, INV, HOME, 0, 4, false);
        sent(house, 1, INV, HOME, 1, 4, false);
        sent(house, 2, INV, HOME, 3, 4, false);
        Check.same("acks due", house.home(4, 3), 3);
        Check.same("sharers stay", house.home(4, 1), 15);
        house.deliver(1);
        sent(house, 2, ACK, 1, HOME, 4, false);
        Check.same("gone", house.cached(1, 4), 0);
        house.deliver(2);
        Check.same("acks due", house.home(4, 3), 2);
        house.deliver(0);
        house.deliver(0);
        house.deliver(0);
        Check.same("acks due", house.home(4, 3), 1);
        house.deliver(0);
        alone(house, GIVE_M, HOME, 2, 4, true);
        Check.same("owner", house.home(4, 0), 2);
        Check.same("no sharers", house.home(4, 1), 0);
        Check.same("word while lent", house.word(64), 9);
        Check.deliverAll(house);
        Check.same("M", house.cached(2, 4), 3);
        Check.same("copy", house.copy(2, 64), 9);
        Check.same("drain", house.drain(2), 1);
        // From the owner to another one.
        house.step(3);
        Check.deliverAll(house);
        Check.same("a store", house.step(3), 1);
        Check.same("its drain waits", house.drain(3), 2);
        house.deliver(0);
        alone(house, INV, HOME, 2, 4, false);
        house.deliver(0);
        alone(house, ACK, 2, HOME, 4, true);
        Check.same("gone", house.cached(2, 4), 0);
        Check.deliverAll(house);
        Check.same("owner", house.home(4, 0), 3);
        Check.same("drain", house.drain(3), 1);
    }

    /** Two that share a line both ask for it alone: the one that comes second loses its copy meanwhile. */
    private static void upgradeThatLoses() {
        CoreHouse house = Check.house("amoadd x1,x2,(x3);li x2,1;j 0;word 5;", 2, 1, 1, 1, 1, 2);
        house.step(0);
        Check.deliverAll(house);
        house.step(1);
        Check.deliverAll(house);
        Check.same("S", house.cached(0, 0), 1);
        Check.same("S", house.cached(1, 0), 1);
        Check.same("waits", house.step(0), 6);
        Check.same("waits", house.step(1), 6);
        house.deliver(1);
        house.deliver(0);
        Check.same("core 0 waits at the home", house.waiting(0), 1);
        alone(house, INV, HOME, 0, 0, false);
        house.deliver(0);
        Check.same("lost", house.cached(0, 0), 0);
        Check.same("it fetches nothing, and asks no more", house.step(0), 2);
        alone(house, ACK, 0, HOME, 0, false);
        house.deliver(0);
        house.deliver(0);
        alone(house, DONE, 1, HOME, 0, false);
        Check.same("core 1 has it", house.step(1), 1);
        house.deliver(0);
        alone(house, INV, HOME, 1, 0, false);
        Check.deliverAll(house);
        Check.same("now core 0", house.cached(0, 0), 3);
        Check.same("not core 1", house.cached(1, 0), 0);
        Check.same("core 0 goes on", house.step(0), 1);
    }

    /** One way: core 0 has line 4 as M; its next fetch sends that back. */
    private static CoreHouse full() {
        CoreHouse house = Check.house("a:li x1,9;sw x1,64(x0);j a;", 2, 1, 1, 1, 1, 4);
        Check.retire(house, 0, 2);
        Check.same("drain", house.drain(0), 2);
        Check.same("the text as E goes to the shelf", house.core(0, 37), 0);
        sent(house, 0, PUT, 0, HOME, 0, true);
        sent(house, 1, GETM, 0, HOME, 4, false);
        Check.deliverAll(house);
        Check.same("drain", house.drain(0), 1);
        Check.same("no text", house.cached(0, 0), 0);
        return house;
    }

    private static void goesBack() {
        CoreHouse house = full();
        Check.same("fetch waits", house.step(0), 2);
        Check.same("messages", house.total(1), 2);
        sent(house, 0, PUT, 0, HOME, 4, true);
        Check.same("its word", house.message(0, 5), 9);
        sent(house, 1, GETS, 0, HOME, 0, false);
        Check.same("shelf", house.core(0, 37), 4);
        Check.same("request", house.core(0, 36), 0);
        Check.same("word of the shelf", house.word(64), 9);
        house.deliver(0);
        sent(house, 1, BACK, HOME, 0, 4, false);
        Check.same("owner", house.home(4, 0), CoreHouse.NONE);
        Check.same("changed", house.home(4, 4), 1);
        Check.same("words", house.home(4, 5), 9);
        Check.same("still on the shelf", house.core(0, 37), 4);
        house.deliver(1);
        Check.same("shelf is empty", house.core(0, 37), CoreHouse.NONE);
        Check.same("word", house.word(64), 9);
        Check.same("memory", house.memory(64), 0);
    }

    private static void shelfAnswers() {
        for (int ask = GETS; ask <= GETM; ask++) {
            boolean shares = ask == GETS;
            CoreHouse house = Check.house("li x1,9;sw x1,64(x0);nop;org 128;core 1;"
                + (shares ? "lw x2,64(x0);" : "sw x0,68(x0);"), 2, 1, 1, 1, 1, 4);
            Check.retire(house, 0, 2);
            house.drain(0);
            Check.deliverAll(house);
            Check.same("drain", house.drain(0), 1);
            house.step(1);
            Check.deliverAll(house);
            house.step(0);
            sent(house, 0, PUT, 0, HOME, 4, true);
            sent(house, 1, GETS, 0, HOME, 0, false);
            Check.same("core 1", house.step(1), shares ? 3 : 1);
            Check.same("its drain", house.drain(1), shares ? 0 : 2);
            sent(house, 2, PUT, 1, HOME, 8, true);
            sent(house, 3, ask, 1, HOME, 4, false);
            house.deliver(3);
            sent(house, 3, shares ? DOWN : INV, HOME, 0, 4, false);
            house.deliver(3);
            sent(house, 3, ACK, 0, HOME, 4, true);
            Check.same("its word", house.message(3, 5), 9);
            Check.same("the shelf is taken all the same", house.core(0, 37), 4);
            Check.same("word in a message alone", house.word(64), 9);
            house.deliver(3);
            sent(house, 3, shares ? GIVE_S : GIVE_M, HOME, 1, 4, true);
            Check.same("sharers", house.home(4, 1), shares ? 3 : 0);
            Check.same("owner", house.home(4, 0), shares ? CoreHouse.NONE : 1);
            house.deliver(0);
            Check.same("PUT waits, the way is about core 1", house.waiting(0), 1);
            Check.deliverAll(house);
            Check.same("BACK has come", house.core(0, 37), CoreHouse.NONE);
            Check.same("core 1 has it", house.cached(1, 4), shares ? 1 : 3);
            Check.same("owner", house.home(4, 0), shares ? CoreHouse.NONE : 1);
            Check.same("word", house.word(64), 9);
        }
    }

    private static void shelfIsTaken() {
        CoreHouse house = full();
        house.step(0);
        Check.yes("GETS", house.deliverOn(0, 1));
        Check.yes("GIVE", house.deliverOn(2, 0));
        Check.same("the text is there", house.cached(0, 0), 2);
        Check.same("jump", house.step(0), 1);
        Check.same("li", house.step(0), 1);
        Check.same("a store waits for nothing", house.step(0), 1);
        Check.same("the shelf has this line", house.drain(0), 2);
        Check.same("so nothing is sent", house.core(0, 36), CoreHouse.NONE);
        Check.same("and the text stays", house.cached(0, 0), 2);
        sent(house, 0, PUT, 0, HOME, 4, true);
        house.deliver(0);
        Check.yes("BACK", house.deliverOn(1, 0));
        Check.same("now it asks", house.drain(0), 2);
        Check.same("request", house.core(0, 36), 4);
        Check.same("the text is on the shelf", house.core(0, 37), 0);
        // A shelf with another line holds a miss up.
        CoreHouse other = Check.house("j a;org 16;a:j b;org 32;b:nop;", 1, 1, 1, 1, 1, 4);
        Check.same("fetch", other.step(0), 2);
        Check.deliverAll(other);
        Check.same("jump", other.step(0), 1);
        Check.same("fetch", other.step(0), 2);
        Check.yes("GETS", other.deliverOn(0, 1));
        Check.yes("GIVE", other.deliverOn(2, 0));
        Check.same("jump", other.step(0), 1);
        Check.same("shelf", other.core(0, 37), 0);
        Check.same("fetch", other.step(0), 2);
        Check.same("nothing is sent", other.core(0, 36), CoreHouse.NONE);
        Check.same("the way stays", other.cached(0, 1), 2);
        Check.same("misses", other.core(0, 38), 2);
        Check.deliverAll(other);
        Check.same("fetch", other.step(0), 2);
        Check.same("now it is sent", other.core(0, 36), 2);
    }

    private static void recalled() {
        CoreHouse one = Check.house("li x1,9;sw x1,0(x0);j a;org 32;a:nop;", 1, 1, 1, 2, 2, 1);
        Check.retire(one, 0, 2);
        Check.same("drain", one.drain(0), 1);
        Check.same("jump", one.step(0), 1);
        Check.same("fetch", one.step(0), 2);
        alone(one, GETS, 0, HOME, 2, false);
        one.deliver(0);
        alone(one, INV, HOME, 0, 0, false);
        Check.same("a recall", one.home(0, 2), 16);
        Check.same("ack due", one.home(0, 3), 1);
        Check.same("owner stays", one.home(0, 0), 0);
        Check.same("recalls", one.total(5), 1);
        Check.same("the request waits", one.waiting(0), 1);
        one.deliver(0);
        alone(one, ACK, 0, HOME, 0, true);
        Check.same("gone", one.cached(0, 0), 0);
        Check.same("word", one.word(0), 9);
        Check.same("memory is old", one.memory(0), 0x00900093);
        one.deliver(0);
        alone(one, GIVE_E, HOME, 0, 2, true);
        Check.same("memory", one.memory(0), 9);
        Check.same("word", one.word(0), 9);
        Check.fails("no way", NoSuchElementException.class, () -> one.home(0, 0));
        Check.same("none waits", one.waiting(0), 0);
        Check.same("lines in the home", one.total(6), 1);
        Check.deliverAll(one);
        Check.same("fetch", one.step(0), 1);
    }

    /** A request that waits for a recall begins another one when something comes to its set. */
    private static void recalledTwice() {
        CoreHouse two = Check.house("core 0;j a;org 16;core 1;j b;org 48;a:nop;org 64;b:nop;", 2, 1, 1, 1, 1, 2);
        for (int c = 0; c < 2; c++) {
            Check.same("fetch", two.step(c), 2);
            Check.deliverAll(two);
            Check.same("jump", two.step(c), 1);
        }
        for (int c = 0; c < 2; c++) {
            Check.same("fetch", two.step(c), 2);
        }
        Check.same("messages", two.total(1), 4);
        sent(two, 1, GETS, 0, HOME, 3, false);
        sent(two, 3, GETS, 1, HOME, 4, false);
        two.deliver(1);
        Check.same("the way of line 0 is recalled", two.home(0, 2), 16);
        Check.same("that of line 1 not yet", two.home(1, 2), CoreHouse.NONE);
        Check.same("recalls", two.total(5), 1);
        two.deliver(2);
        Check.same("two wait", two.waiting(0), 2);
        Check.same("now that of line 1, too", two.home(1, 2), 16);
        Check.same("recalls", two.total(5), 2);
        Check.deliverAll(two);
        Check.same("core 0 has line 3", two.cached(0, 3), 2);
        Check.same("core 1 has line 4", two.cached(1, 4), 2);
    }

    /** The first that waits at a set holds up one behind it that could be taken. */
    private static void heldUp() {
        CoreHouse house = Check.house("nop;org 16;core 1;nop;org 16;core 2;", 3, 1, 1, 1, 1, 4);
        house.step(0);
        house.step(1);
        house.step(2);
        house.deliver(1);
        house.deliver(1);
        Check.same("core 2 waits for line 1", house.waiting(0), 1);
        Check.yes("GETS of line 0", house.deliver(0));
        Check.same("is held up", house.waiting(0), 2);
        alone(house, GIVE_E, HOME, 1, 1, true);
        house.deliver(0);
        house.deliver(0);
        Check.same("none waits", house.waiting(0), 0);
        sent(house, 0, DOWN, HOME, 1, 1, false);
        sent(house, 1, GIVE_E, HOME, 0, 0, true);
    }

    private static void longestAgo() {
        // The home frees the way for which a request was taken longest ago, not the lowest one.
        CoreHouse house = Check.house("j a;org 16;a:j b;org 32;b:nop;", 1, 1, 1, 1, 1, 2);
        Check.retire(house, 0, 2);
        Check.same("way", house.home(0, 9), 0);
        Check.same("way", house.home(1, 9), 1);
        Check.retire(house, 0, 1);
        Check.same("line 2 in the way of line 0", house.home(2, 9), 0);
        Check.same("way", house.home(1, 9), 1);
        Check.same("no recalls: all went back", house.total(5), 0);
        // A cache frees what was used longest ago: here line 4, since the text is used at each step.
        CoreHouse cache = Check.house("lw x1,64(x0);lw x1,80(x0);lw x1,64(x0);j 0;", 1, 1, 1, 2, 1, 8);
        Check.retire(cache, 0, 2);
        Check.same("the text", cache.cached(0, 0), 2);
        Check.same("line 4 went", cache.cached(0, 4), 0);
        Check.same("line 5 came", cache.cached(0, 5), 2);
    }

    private static void channels() {
        CoreHouse house = Check.house("nop;org 16;core 1;nop;org 32;core 2;", 3, 1, 1, 1, 1, 4);
        for (int c = 0; c < 3; c++) {
            house.step(c);
        }
        Check.yes("the second request", house.deliverOn(0, 1));
        sent(house, 1, GETS, 2, HOME, 2, false);
        sent(house, 2, GIVE_E, HOME, 1, 1, true);
        Check.no("no second on channel 2", house.deliverOn(2, 1));
        Check.yes("the first on channel 2", house.deliverOn(2, 0));
        Check.same("it came", house.cached(1, 1), 2);
        sent(house, 2, DONE, 1, HOME, 1, false);
        Check.no("none on channel 1", house.deliverOn(1, 0));
        Check.yes("DONE is on channel 2", house.deliverOn(2, 0));
        Check.same("two are left", house.total(1), 2);
        Check.same("three were delivered", house.total(3), 3);
    }
}

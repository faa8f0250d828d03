import java.util.NoSuchElementException;

/** Promises 8, 9, 20 at their boundaries: an empty pool, one message, many; channels; the order of what is left. */
public final class EdgesOfPoolTest {
    private static final int[] FAR = {Integer.MIN_VALUE, -1000, -2, -1, 1000, Integer.MAX_VALUE};

    public static void main(String[] args) {
        emptyPool();
        oneMessage();
        sixteenMessages();
        orderOfWhatIsLeft();
        channels();
        kindsAndChannels();
        whatOfAMessage();
        manyMessages();
        Check.end();
    }

    /** Sixteen cores that each ask for a line of their own: GETS of line c by core c. */
    private static CoreHouse asked(int cores) {
        StringBuilder text = new StringBuilder();
        for (int c = 0; c < 16; c++) {
            text.append("org ").append(16 * c).append(";core ").append(c).append(";nop;");
        }
        CoreHouse house = Check.house(text.toString(), 16, 1, 1, 1, 16, 1);
        for (int c = 0; c < cores; c++) {
            Check.same("fetch", house.step(c), 2);
        }
        return house;
    }

    private static void none(CoreHouse house, int k) {
        Check.no("deliver(" + k + ")", house.deliver(k));
        State.stays("deliver(" + k + ")", house, () -> house.deliver(k) ? 1 : 0);
        for (int what = 0; what <= 9; what++) {
            int w = what;
            Check.fails("message(" + k + ", " + what + ")", NoSuchElementException.class, () -> house.message(k, w));
        }
    }

    private static void emptyPool() {
        CoreHouse house = asked(0);
        Check.same("messages", house.total(1), 0);
        none(house, 0);
        for (int k : FAR) {
            none(house, k);
        }
        for (int channel = -2; channel <= 4; channel++) {
            Check.no("deliverOn(" + channel + ", 0)", house.deliverOn(channel, 0));
        }
        Check.same("delivered", house.total(3), 0);
    }

    private static void oneMessage() {
        CoreHouse house = asked(1);
        none(house, 1);
        none(house, -1);
        Check.same("delivered", house.total(3), 0);
        Check.yes("deliver(0)", house.deliver(0));
        Check.same("delivered", house.total(3), 1);
        Check.yes("GIVE", house.deliver(0));
        Check.yes("DONE", house.deliver(0));
        Check.same("delivered", house.total(3), 3);
        none(house, 0);
    }

    private static void sixteenMessages() {
        CoreHouse house = asked(16);
        none(house, 16);
        none(house, 17);
        for (int k : FAR) {
            none(house, k);
        }
        for (int k = 0; k < 16; k++) {
            Check.same("from", house.message(k, 1), k);
        }
        Check.yes("the last", house.deliver(15));
        Check.same("GIVE is the last now", house.message(15, 0), 7);
        Check.same("to", house.message(15, 2), 15);
        none(house, 16);
        Check.yes("the first", house.deliver(0));
        Check.same("the first now", house.message(0, 1), 1);
        Check.same("GIVE is the last now", house.message(15, 2), 0);
        Check.same("delivered", house.total(3), 2);
    }

    private static void orderOfWhatIsLeft() {
        for (int taken = 0; taken < 16; taken++) {
            CoreHouse house = asked(16);
            Check.yes("deliver", house.deliver(taken));
            for (int k = 0; k < 15; k++) {
                int from = k < taken ? k : k + 1;
                Check.same("kind", house.message(k, 0), 0);
                Check.same("from", house.message(k, 1), from);
                Check.same("line", house.message(k, 3), from);
            }
            Check.same("what came by it is behind all", house.message(15, 2), taken);
        }
    }

    private static void channels() {
        CoreHouse house = asked(4);
        for (int k : new int[] {Integer.MIN_VALUE, -1, 4, 5, Integer.MAX_VALUE}) {
            Check.no("deliverOn(0, " + k + ")", house.deliverOn(0, k));
        }
        for (int channel : new int[] {Integer.MIN_VALUE, -1, 1, 2, 3, 4, Integer.MAX_VALUE}) {
            State.stays("deliverOn(" + channel + ", 0)", house, () -> house.deliverOn(channel, 0) ? 1 : 0);
            Check.no("deliverOn(" + channel + ", 0)", house.deliverOn(channel, 0));
        }
        Check.yes("the last of channel 0", house.deliverOn(0, 3));
        Check.no("no fourth any more", house.deliverOn(0, 3));
        Check.yes("the first of channel 0", house.deliverOn(0, 0));
        // GETS 1, GETS 2, GIVE 3, GIVE 0.
        Check.no("no third of channel 2", house.deliverOn(2, 2));
        Check.yes("the second of channel 2", house.deliverOn(2, 1));
        Check.same("core 0 has its line", house.cached(0, 0), 2);
        Check.same("core 3 not", house.cached(3, 3), 0);
        Check.same("DONE is the last", house.message(3, 0), 10);
        Check.yes("the second of channel 0", house.deliverOn(0, 1));
        Check.same("GETS 1 is the first", house.message(0, 1), 1);
        Check.same("delivered", house.total(3), 4);
    }

    /** One of each kind with its channel. */
    private static void kindsAndChannels() {
        int[] channels = {0, 0, 0, 1, 1, 2, 2, 2, 2, 1, 2};
        boolean[] seen = new boolean[11];
        CoreHouse house = Check.house("a:li x1,5;sw x1,64(x0);lw x2,80(x0);sw x1,80(x0);j a;", 4, 2, 1, 1, 1, 8);
        for (int i = 0; i < 400; i++) {
            house.step(i % 4);
            house.drain(i / 3 % 4);
            for (int k = 0; k < house.total(1); k++) {
                int kind = house.message(k, 0);
                seen[kind] = true;
                Check.same("channel of kind " + kind, house.message(k, 9), channels[kind]);
                boolean words = kind == 2 || kind >= 6 && kind <= 8;
                boolean either = kind == 5;
                Check.yes("words of kind " + kind, either || house.message(k, 4) == (words ? 1 : 0));
                boolean toHome = kind <= 2 || kind == 5 || kind == 10;
                Check.yes("from and to of kind " + kind, (house.message(k, 2) == 16) == toHome && (house.message(k, 1) == 16) != toHome);
            }
            house.deliver(i * 7 % Math.max(1, house.total(1)));
        }
        for (int kind = 0; kind < seen.length; kind++) {
            Check.yes("kind " + kind + " was seen", seen[kind]);
        }
    }

    private static void whatOfAMessage() {
        CoreHouse house = Check.house("nop;word 5;word 6;word 7;", 2, 1, 1, 1, 1, 2);
        house.step(1);
        int[] gets = {0, 1, 16, 0, 0, 0, 0, 0, 0, 0};
        int[] give = {7, 16, 1, 0, 1, 0x13, 5, 6, 7, 2};
        for (int what = 0; what < 10; what++) {
            Check.same("GETS, " + what, house.message(0, what), gets[what]);
        }
        house.deliver(0);
        for (int what = 0; what < 10; what++) {
            Check.same("GIVE, " + what, house.message(0, what), give[what]);
        }
        for (int what : new int[] {Integer.MIN_VALUE, -1, 10, 11, Integer.MAX_VALUE}) {
            Check.fails("message(0, " + what + ")", NoSuchElementException.class, () -> house.message(0, what));
        }
    }

    /**
     * Sixteen cores share sixteen lines; each has a DONE on its way and asks for one of these lines alone:
     * 16 DONE and 16 times 15 INV make 256 messages, the most that m j k can tell.
     */
    private static void manyMessages() {
        StringBuilder text = new StringBuilder("z:lw x2,0(x1);addi x1,x1,16;bne x1,x3,z;lw x4,0(x6);sw x5,0(x5);y:j y;");
        for (int c = 0; c < 16; c++) {
            // Where they begin is in set 2 of each cache, what is read last in set 3, so that no line has to go.
            text.append("org ").append(1056 + 128 * c).append(";core ").append(c).append(";li x5,").append(512 + 16 * c)
                .append(";li x6,").append(3120 + 128 * c).append(";j s;");
        }
        text.append("org 96;s:li x1,512;li x3,768;j z;");
        CoreHouse house = Check.house(text.toString(), 16, 1, 8, 4, 64, 8);
        for (int c = 0; c < 16; c++) {
            for (int i = 0; i < 300 && house.core(c, 32) != 12; i++) {
                house.step(c);
                Check.deliverAll(house);
            }
            Check.same("place", house.core(c, 32), 12);
        }
        for (int c = 0; c < 16; c++) {
            Check.same("load", house.step(c), 3);
            Check.yes("GETS", house.deliverOn(0, 0));
            Check.yes("GIVE", house.deliver(house.total(1) - 1));
            Check.same("load", house.step(c), 1);
            Check.same("DONE is left", house.total(1), c + 1);
        }
        for (int c = 0; c < 16; c++) {
            Check.same("store", house.step(c), 2);
            Check.yes("GETS", house.deliverOn(0, 0));
            deliverBehind(house, 16);
        }
        for (int c = 0; c < 16; c++) {
            Check.same("store", house.step(c), 1);
            Check.same("drain", house.drain(c), 2);
            Check.yes("GETM", house.deliverOn(0, 0));
            Check.same("INV for each other core", house.total(1), 16 + 15 * (c + 1));
        }
        all256(house);
    }

    private static void deliverBehind(CoreHouse house, int left) {
        for (int i = 0; i < 100 && house.total(1) > left; i++) {
            Check.yes("deliver", house.deliver(house.total(1) - 1));
        }
        Check.same("messages", house.total(1), left);
    }

    private static void all256(CoreHouse house) {
        Check.same("messages", house.total(1), 256);
        for (int k = 0; k < 256; k++) {
            Check.same("kind of " + k, house.message(k, 0), k < 16 ? 10 : 3);
            Check.same("line of " + k, house.message(k, 3), k < 16 ? 195 + 8 * k : 32 + (k - 16) / 15);
        }
        none(house, 256);
        Check.no("no such on channel 1", house.deliverOn(1, 240));
        Check.no("no such on channel 2", house.deliverOn(2, 16));
        int delivered = house.total(3);
        Check.same("m and two digits f: message 255", Check.play(house, "mff"), 0);
        Check.same("ACK is the last", house.message(255, 0), 5);
        Check.same("of core 14", house.message(255, 1), 14);
        Check.same("message 255 again", Check.play(house, "mff"), 0);
        Check.same("now there are 255", house.total(1), 255);
        Check.same("there is none such", Check.play(house, "mff"), 1);
        Check.same("message 254", Check.play(house, "mfe"), 0);
        Check.same("r1f is the sixteenth of channel 1", house.message(16 + 15, 2), 0);
        Check.same("r1f", Check.play(house, "r1f"), 0);
        Check.same("it went", house.message(16 + 15, 2), 2);
        Check.same("delivered", house.total(3), delivered + 4);
        Check.yes("the last on channel 1", house.deliverOn(1, 236));
        Check.no("no such on channel 1", house.deliverOn(1, 236));
        house.run(1);
        Check.same("run delivers all", house.total(1), 0);
        for (int c = 0; c < 16; c++) {
            Check.same("core " + c + " has its line alone", house.cached(c, 32 + c), 3);
            Check.same("sharers", house.home(32 + c, 1), 0);
        }
        house.run(1);
        for (int c = 0; c < 16; c++) {
            Check.same("its word", house.word(512 + 16 * c), 512 + 16 * c);
        }
    }
}

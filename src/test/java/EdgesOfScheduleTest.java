/** Promises 10 and 11 at their boundaries: rounds, entries, digits, idle ones, faults, waits. */
public final class EdgesOfScheduleTest {
    public static void main(String[] args) {
        howManyRounds();
        stepThenDrain();
        coresInOrder();
        allThatWait();
        retiredByThisCall();
        emptySchedules();
        longSchedules();
        everyCoreDigit();
        everyMessageDigit();
        everyChannelDigit();
        idleOrNot();
        everyCharacter();
        endsTooEarly();
        faultDoesNothing();
        waitsGrow();
        waitsOfStopped();
        waitsEndAtRetiring();
        greatestWaits();
        totalsOfEntries();
        Check.end();
    }

    // ---- run

    private static void howManyRounds() {
        CoreHouse house = Check.house("addi x1,x1,1;j -4;", 2, 1, 1, 1, 2, 1);
        for (int n : new int[] {Integer.MIN_VALUE, -200, -1, 0, 201, 202, 1000000, Integer.MAX_VALUE}) {
            Check.fails("run(" + n + ")", IllegalArgumentException.class, () -> house.run(n));
            State.stays("run(" + n + ")", house, () -> house.run(n));
        }
        Check.same("run(1): both fetch", house.run(1), 0);
        Check.same("run(1)", house.run(1), 2);
        Check.same("run(199)", house.run(199), 398);
        Check.same("run(200)", house.run(200), 400);
        Check.same("x1", house.core(0, 1), 200);
        Check.same("retired", house.total(2), 800);
        CoreHouse fresh = Check.house("addi x1,x1,1;j -4;", 1, 1, 1, 1, 1, 1);
        Check.same("run(200) with the first fetch", fresh.run(200), 199);
    }

    private static void stepThenDrain() {
        CoreHouse house = Check.house("sw x0,64(x0);j -4;", 1, 1, 1, 2, 1, 8);
        Check.same("fetch", house.run(1), 0);
        Check.same("store, and its drain asks", house.run(1), 1);
        Check.same("in the buffer", house.core(0, 34), 1);
        Check.same("it came in this round", house.cached(0, 4), 3);
        Check.same("jump, drain", house.run(1), 1);
        Check.same("drained", house.core(0, 34), 0);
        Check.same("store and drain in one round", house.run(1), 1);
        Check.same("drained", house.core(0, 34), 0);
        Check.same("changed", house.total(4), 2);
        // With a full buffer the step waits, and then the drain makes room.
        CoreHouse full = Check.house("sw x0,64(x0);sw x0,64(x0);j -4;", 1, 1, 1, 2, 1, 8);
        Check.same("fetch, store", full.run(2), 1);
        Check.same("the second store waits, the drain is done", full.run(1), 0);
        Check.same("drained", full.core(0, 34), 0);
        Check.same("now it goes", full.run(1), 1);
        // Stores of a core that has stopped are drained.
        CoreHouse stopped = Check.house("sw x0,64(x0);sw x0,68(x0);ecall;", 1, 2, 1, 2, 1, 8);
        Check.same("all", stopped.run(4), 3);
        Check.same("stopped", stopped.core(0, 33), 1);
        stopped.run(2);
        Check.same("drained", stopped.core(0, 34), 0);
    }

    /** The request of core 0 is sent first, so that the line is with the last core in the end, which goes on first. */
    private static void coresInOrder() {
        CoreHouse house = Check.house("a:amoadd x1,x2,(x0);j a;", 3, 1, 1, 1, 1, 4);
        Check.same("all fetch", house.run(1), 0);
        Check.same("all share", house.home(0, 1), 7);
        Check.same("all ask for it alone", house.run(1), 0);
        Check.same("core 2 has it", house.cached(2, 0), 3);
        Check.same("core 0 not", house.cached(0, 0), 0);
        Check.same("core 1 not", house.cached(1, 0), 0);
        Check.same("only core 2", house.run(1), 1);
        Check.same("core 2", house.core(2, 35), 1);
    }

    private static void allThatWait() {
        CoreHouse house = Check.house("nop;org 16;core 1;nop;", 2, 1, 1, 1, 1, 2);
        house.step(0);
        house.step(1);
        Check.same("two wait", house.total(1), 2);
        Check.same("run", house.run(1), 0);
        Check.same("none waits", house.total(1), 0);
        Check.same("with those that came by them", house.total(3), 6);
        Check.same("DONE has come", house.home(0, 2), CoreHouse.NONE);
        Check.same("run", house.run(1), 2);
        Check.same("no more", house.total(3), 6);
    }

    private static void retiredByThisCall() {
        CoreHouse house = Check.house("nop;j 2;", 3, 1, 1, 1, 1, 4);
        Check.same("fetches", house.run(1), 0);
        Check.same("nop, j; a place retires nothing", house.run(10), 6);
        Check.same("cause", house.core(2, 33), 3);
        Check.same("nothing more", house.run(200), 0);
        Check.same("retired", house.total(2), 6);
        Check.same("run is no entry", house.total(12), 0);
        Check.same("nor does it make waits", house.core(0, 40), 0);
    }

    // ---- play

    private static CoreHouse house(int cores) {
        return Check.house("nop;", cores, 1, 1, 1, 2, 8);
    }

    private static void emptySchedules() {
        CoreHouse house = house(1);
        State.stays("an empty schedule", house, house::play);
        Check.same("nothing", Check.play(house, ""), 0);
        Check.same("blanks", Check.play(house, " ".repeat(1500)), 0);
        Check.same("no entries", house.total(12), 0);
        Check.same("no waits", house.core(0, 39), 0);
        Check.same("blanks around", Check.play(house, "  s0  "), 0);
        Check.same("one entry", house.total(12), 1);
    }

    private static void longSchedules() {
        CoreHouse steps = house(1);
        Check.same("750 steps that wait", Check.play(steps, "s0".repeat(750)), 0);
        Check.same("entries", steps.total(12), 750);
        Check.same("waits", steps.core(0, 39), 750);
        Check.same("one request", steps.total(1), 1);
        CoreHouse none = house(1);
        Check.same("500 that name no message", Check.play(none, "m00".repeat(500)), 500);
        Check.same("idle", none.total(13), 500);
        CoreHouse last = house(1);
        Check.type(last, "s0".repeat(749) + "sg");
        Check.fails("the last character", IllegalArgumentException.class, last::play);
        Check.same("place", last.fault(1), 1499);
        Check.type(last, "s0".repeat(749) + " s");
        Check.fails("the tape's length", IllegalArgumentException.class, last::play);
        Check.same("place", last.fault(1), 1500);
        Check.same("nothing was done", last.total(12), 0);
    }

    private static void everyCoreDigit() {
        String digits = "0123456789abcdef";
        for (int cores = 1; cores <= 16; cores++) {
            CoreHouse house = house(cores);
            for (int c = 0; c < 16; c++) {
                Check.same("s" + digits.charAt(c) + " of " + cores, Check.play(house, "s" + digits.charAt(c)), c < cores ? 0 : 1);
                Check.same("d" + digits.charAt(c) + " of " + cores, Check.play(house, "d" + digits.charAt(c)), 1);
            }
            Check.same("requests", house.total(1), cores);
            for (int c = 0; c < cores; c++) {
                Check.same("request", house.message(c, 1), c);
            }
        }
    }

    private static void everyMessageDigit() {
        String digits = "0123456789abcdef";
        for (int k = 0; k < 16; k++) {
            CoreHouse house = house(16);
            Check.play(house, "s0s1s2s3s4s5s6s7s8s9sasbscsdsesf");
            Check.same("m1" + digits.charAt(k), Check.play(house, "m1" + digits.charAt(k)), 1);
            Check.same("m0" + digits.charAt(k), Check.play(house, "m0" + digits.charAt(k)), 0);
            Check.same("GIVE is behind all", house.message(15, 2), k);
            CoreHouse other = house(16);
            Check.play(other, "s0s1s2s3s4s5s6s7s8s9sasbscsdsesf");
            Check.same("r1" + digits.charAt(k), Check.play(other, "r1" + digits.charAt(k)), 1);
            Check.same("r2" + digits.charAt(k), Check.play(other, "r2" + digits.charAt(k)), 1);
            Check.same("r0" + digits.charAt(k), Check.play(other, "r0" + digits.charAt(k)), 0);
            Check.same("GIVE is behind all", other.message(15, 2), k);
        }
        // Sixteen requests and sixteen of a second kind: m10 is the seventeenth.
        CoreHouse more = Check.house("j 1024;org 1024;nop;", 16, 1, 1, 1, 2, 8);
        Check.play(more, "s0");
        Check.deliverAll(more);
        Check.play(more, "s1s2s3s4s5s6s7s8s9sasbscsdsesf");
        Check.same("fifteen", more.total(1), 15);
        Check.same("jump, then PUT and GETS", Check.play(more, "s0s0"), 0);
        Check.same("seventeen", more.total(1), 17);
        Check.same("m11 is none", Check.play(more, "m11"), 1);
        Check.same("m10 is GETS of core 0", Check.play(more, "m10"), 0);
        Check.same("GIVE for it", more.message(16, 2), 0);
        Check.same("of line 64", more.message(16, 3), 64);
        Check.same("m10 is that now", Check.play(more, "m10"), 0);
        Check.same("line 64", more.cached(0, 64), 2);
    }

    private static void everyChannelDigit() {
        for (char mark = 33; mark <= 126; mark++) {
            CoreHouse house = house(1);
            Check.type(house, "r" + mark + "0");
            if (mark >= '0' && mark <= '2') {
                Check.same("r" + mark + "0 is idle", house.play(), 1);
            } else {
                Check.fails("r" + mark + "0", IllegalArgumentException.class, house::play);
                Check.same("place", house.fault(1), 1);
            }
        }
        CoreHouse house = house(2);
        Check.same("request, GIVE, DONE", Check.play(house, "s0r00r20r20"), 0);
        Check.same("nothing is left", house.total(1), 0);
        Check.same("DOWN is on channel 1", Check.play(house, "s1r00r10"), 0);
        Check.same("ACK, GIVE, DONE", Check.play(house, "r20r20r20"), 0);
        Check.same("nothing is left", house.total(1), 0);
    }

    private static void idleOrNot() {
        CoreHouse house = Check.house("sw x0,64(x0);ecall;", 1, 1, 1, 2, 1, 8);
        String[] entries = {"d0", "s0", "s0", "m01", "m00", "r10", "r01", "r20", "m00", "m00", "s0", "d0", "d0", "s0", "s0", "r00", "r20",
            "r20", "d0", "d0"};
        int[] idle = {1, 0, 0, 1, 0, 1, 1, 0, 0, 1, 0, 0, 0, 0, 1, 0, 0, 0, 0, 1};
        int sum = 0;
        for (int i = 0; i < entries.length; i++) {
            Check.same("entry " + i + ", " + entries[i], Check.play(house, entries[i]), idle[i]);
            sum += idle[i];
            Check.same("entries", house.total(12), i + 1);
            Check.same("idle", house.total(13), sum);
        }
        Check.same("stopped", house.core(0, 33), 1);
        // A step that stops by its place is done, and those behind it are idle.
        CoreHouse place = Check.house("j 2;", 1, 1, 1, 1, 1, 1);
        Check.same("all in one", Check.play(place, "s0m00m00m00 s0 s0 s0 d0"), 2);
        Check.same("cause", place.core(0, 33), 3);
        // An idle one leaves all as it was but for the waits and what counts entries.
        CoreHouse still = house(1);
        Check.play(still, "sfdfm00r00d0");
        Check.same("nothing sent", still.total(1), 0);
        Check.same("nothing retired", still.total(2), 0);
    }

    private static void place(String schedule, int place) {
        CoreHouse house = house(2);
        Check.type(house, schedule);
        Check.fails("play of '" + schedule + "'", IllegalArgumentException.class, house::play);
        Check.same("kind of '" + schedule + "'", house.fault(0), 4);
        Check.same("place of '" + schedule + "'", house.fault(1), place);
    }

    /** Each character of 32 to 126 where an entry begins, and where a digit must stand. */
    private static void everyCharacter() {
        for (char mark = 32; mark <= 126; mark++) {
            boolean digit = mark >= '0' && mark <= '9' || mark >= 'a' && mark <= 'f';
            boolean begins = mark == 's' || mark == 'd' || mark == 'm' || mark == 'r';
            if (begins) {
                place("s0" + mark, 3);
            } else if (mark != ' ') {
                place("s0" + mark + "0", 2);
            }
            if (!digit) {
                place("s" + mark, 1);
                place("d0d" + mark + "0", 3);
                place("m" + mark + "0", 1);
                place("m0" + mark, 2);
                place("r0" + mark, 2);
            } else {
                Check.yes("s" + mark, Check.play(house(16), "s" + mark) == 0);
                Check.same("d" + mark, Check.play(house(16), "d" + mark), 1);
                Check.same("m" + mark + "0", Check.play(house(16), "m" + mark + "0"), 1);
                Check.same("m0" + mark, Check.play(house(16), "m0" + mark), 1);
                Check.same("r0" + mark, Check.play(house(16), "r0" + mark), 1);
            }
        }
    }

    private static void endsTooEarly() {
        place("s", 1);
        place("d", 1);
        place("m", 1);
        place("m0", 2);
        place("r", 1);
        place("r0", 2);
        place("  s", 3);
        place("s0 s1 m1", 8);
        // A blank behind it is a character that can't stand there.
        place("s ", 1);
        place("m0 ", 2);
        place("r0 0", 2);
        place("s 0", 1);
        // The first one is told.
        place("s0 x y", 3);
        place("sxs", 1);
    }

    private static void faultDoesNothing() {
        CoreHouse house = Check.house("a:addi x1,x1,1;sw x1,64(x0);j a;", 2, 2, 1, 2, 1, 8);
        Check.play(house, "s0m00m00m00s0s0d0s1");
        String[] schedules = {"s0d0m00s1x", "s0s", "d0m0", "r00r30", "s0 S0"};
        for (String schedule : schedules) {
            Check.type(house, schedule);
            State.stays("play of '" + schedule + "'", house, house::play);
            Check.same("kind", house.fault(0), 4);
            State.stays("the tape is empty", house, house::play);
            Check.same("no fault", house.fault(0), 0);
        }
    }

    // ---- waits

    private static void waitsGrow() {
        CoreHouse house = house(3);
        Check.same("0 at first", house.core(0, 39) + house.core(0, 40), 0);
        String[] entries = {"s0", "s0", "d0", "sf", "df", "mff", "r00"};
        for (int i = 0; i < entries.length; i++) {
            Check.play(house, entries[i]);
            for (int c = 0; c < 3; c++) {
                Check.same("waits of core " + c + " behind " + entries[i], house.core(c, 39), i + 1);
                Check.same("the greatest", house.core(c, 40), i + 1);
            }
        }
        // Other calls do not make them grow.
        house.step(1);
        house.drain(1);
        house.deliver(0);
        Check.same("other calls", house.core(1, 39), entries.length);
        house.assemble();
        Check.same("0 behind assemble", house.core(0, 39), 0);
        Check.same("0 behind assemble", house.core(0, 40), 0);
    }

    private static void waitsOfStopped() {
        String[] texts = {"ecall;", "word 0;", "lw x1,1(x0);", "j 2;"};
        for (String text : texts) {
            CoreHouse house = Check.house(text, 2, 1, 1, 1, 1, 2);
            boolean place = text.startsWith("j");
            Check.play(house, "s0m00m00m00s0");
            Check.same("retired", house.core(0, 35), 1);
            Check.same("0", house.core(0, 39), 0);
            Check.same("the greatest", house.core(0, 40), 5);
            Check.play(house, "s0");
            // With a place the entry that stops it still made its waits grow, and nothing retired by it.
            Check.same("waits of " + text, house.core(0, 39), place ? 1 : 0);
            Check.play(house, "s0d0s1mff");
            Check.same("no more of one that has stopped", house.core(0, 39), place ? 1 : 0);
            Check.same("the greatest", house.core(0, 40), 5);
            Check.same("the other waits on", house.core(1, 39), 10);
        }
    }

    private static void waitsEndAtRetiring() {
        CoreHouse house = Check.house("nop;j -4;", 2, 1, 1, 1, 1, 2);
        Check.play(house, "s0m00m00m00mff");
        Check.same("waits", house.core(0, 39), 5);
        Check.same("by step", house.step(0), 1);
        Check.same("0", house.core(0, 39), 0);
        Check.same("of the other", house.core(1, 39), 5);
        Check.play(house, "mff");
        Check.same("1", house.core(0, 39), 1);
        Check.play(house, "s0");
        Check.same("by play", house.core(0, 39), 0);
        Check.play(house, "mff");
        house.run(1);
        Check.same("by run", house.core(0, 39), 0);
        Check.same("not of the other, which waits", house.core(1, 39), 8);
        house.run(1);
        Check.same("of the other", house.core(1, 39), 0);
        Check.same("the greatest of the other", house.core(1, 40), 8);
    }

    private static void greatestWaits() {
        CoreHouse house = Check.house("nop;j -4;", 1, 1, 1, 1, 1, 1);
        house.run(1);
        int[] runs = {1, 3, 2, 4, 4, 5};
        int[] greatest = {1, 3, 3, 4, 4, 5};
        for (int i = 0; i < runs.length; i++) {
            Check.play(house, "mff".repeat(runs[i] - 1) + "s0");
            Check.same("0", house.core(0, 39), 0);
            Check.same("the greatest", house.core(0, 40), greatest[i]);
        }
    }

    private static void totalsOfEntries() {
        CoreHouse house = house(1);
        Check.same("three idle", Check.play(house, "d0 s0 mff s1"), 3);
        Check.same("two idle", Check.play(house, "d0d0"), 2);
        Check.same("entries", house.total(12), 6);
        Check.same("idle", house.total(13), 5);
        Check.same("no word", house.assemble(), 0);
        Check.same("0 behind assemble", house.total(12), 0);
        Check.same("0 behind assemble", house.total(13), 0);
        Check.same("idle of this play alone", Check.play(house, "d0"), 1);
    }
}

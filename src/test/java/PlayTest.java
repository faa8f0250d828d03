/** Promises 10 and 11: run, play; waits. */
public final class PlayTest {
    public static void main(String[] args) {
        runs();
        runOrder();
        wrongRuns();
        plays();
        digits();
        idleOnes();
        faults();
        waits();
        Check.end();
    }

    private static void runs() {
        CoreHouse house = Check.house("li x1,3;a:addi x1,x1,-1;bnez x1,a;sw x1,64(x0);ecall;", 1, 1, 1, 2, 2, 4);
        Check.same("the fetch waits in the first round", house.run(1), 0);
        Check.same("all is delivered", house.total(1), 0);
        Check.same("three messages", house.total(3), 3);
        Check.same("two rounds", house.run(2), 2);
        Check.same("up to the end", house.run(200), 7);
        Check.same("stopped", house.core(0, 33), 1);
        Check.same("nothing more", house.run(200), 0);
        Check.same("the store was drained", house.core(0, 34), 0);
        Check.same("it was changed", house.total(4), 1);
        Check.same("retired", house.total(2), 9);
        Check.same("run is no entry", house.total(12), 0);
    }

    private static void runOrder() {
        // In a round the store of core 0 is drained ahead of the step of core 1.
        CoreHouse house = Check.house("li x1,5;sw x1,64(x0);ecall;", 1, 4, 1, 2, 2, 4);
        house.run(2);
        Check.same("li", house.core(0, 35), 1);
        house.run(1);
        Check.same("the store was asked for in its round", house.core(0, 34), 1);
        Check.same("and is there behind it", house.cached(0, 4), 3);
        house.run(1);
        Check.same("then it is drained", house.core(0, 34), 0);
        // Sixteen cores add to one word; each addition is whole.
        CoreHouse many = Check.house("li x1,64;li x2,1;amoadd x3,x2,(x1);amoadd x3,x2,(x1);ecall;", 16, 1, 1, 2, 4, 8);
        for (int i = 0; i < 5; i++) {
            many.run(200);
        }
        Check.same("the sum", many.word(64), 32);
        Check.same("retired", many.total(2), 80);
    }

    private static void wrongRuns() {
        CoreHouse house = Check.house("nop;", 1, 1, 1, 1, 1, 1);
        int[] wrong = {0, -1, 201, Integer.MIN_VALUE, Integer.MAX_VALUE};
        for (int n : wrong) {
            Check.fails("run(" + n + ")", IllegalArgumentException.class, () -> house.run(n));
        }
        Check.same("nothing was done", house.core(0, 38), 0);
        Check.same("run(200)", house.run(200), 2);
    }

    private static void plays() {
        CoreHouse house = Check.house("li x1,7;sw x1,64(x0);ecall;", 1, 2, 1, 2, 1, 2);
        Check.same("nothing", Check.play(house, ""), 0);
        Check.same("blanks", Check.play(house, "   "), 0);
        Check.same("no entries", house.total(12), 0);
        Check.same("one behind the other", Check.play(house, "s0m00m00m00s0s0"), 0);
        Check.same("retired", house.core(0, 35), 2);
        Check.same("the tape is empty", house.play(), 0);
        Check.same("entries", house.total(12), 6);
        Check.same("blanks between", Check.play(house, "  d0 r00  r20 r20   d0 s0 "), 0);
        Check.same("word", house.word(64), 7);
        Check.same("stopped", house.core(0, 33), 1);
        Check.same("entries", house.total(12), 12);
        Check.same("none was idle", house.total(13), 0);
        Check.same("idle ones", Check.play(house, "s0d0m00"), 3);
        Check.same("entries", house.total(12), 15);
        Check.same("idle", house.total(13), 3);
    }

    private static void digits() {
        CoreHouse house = Check.house("nop;", 16, 1, 1, 1, 16, 1);
        Check.same("all cores", Check.play(house, "s0s1s2s3s4s5s6s7s8s9sasbscsdsesf"), 0);
        Check.same("sixteen requests", house.total(1), 16);
        Check.same("message 15", Check.play(house, "m0f"), 0);
        Check.same("it was that of core 15", house.message(15, 2), 15);
        Check.same("request 14 of channel 0", Check.play(house, "r0e"), 0);
        Check.same("waits", house.waiting(0), 1);
        Check.same("message 16 of 15", Check.play(house, "m10"), 1);
        Check.same("no second on channel 2", Check.play(house, "r21"), 1);
        Check.same("the first", Check.play(house, "r20"), 0);
        Check.same("none on channel 1", Check.play(house, "r10"), 1);
        CoreHouse many = Check.house("nop;", 16, 1, 1, 1, 16, 1);
        Check.play(many, "s0s1s2s3s4s5s6s7s8s9sasbscsdsesf");
        Check.same("message 255", Check.play(many, "mff"), 1);
    }

    private static void idleOnes() {
        CoreHouse house = Check.house("nop;", 2, 1, 1, 1, 2, 1);
        Check.same("no such core", Check.play(house, "s2sfd2df"), 4);
        Check.same("empty buffers", Check.play(house, "d0d1"), 2);
        Check.same("no messages", Check.play(house, "m00mffr00r1fr20"), 5);
        Check.same("a step that waits is not idle", Check.play(house, "s0s0"), 0);
        Check.same("idle", house.total(13), 11);
        Check.same("entries", house.total(12), 13);
    }

    private static void fault(String schedule, int place) {
        CoreHouse house = Check.house("nop;", 2, 1, 1, 1, 2, 1);
        Check.type(house, schedule);
        Check.fails("play of '" + schedule + "'", IllegalArgumentException.class, house::play);
        Check.same("kind of '" + schedule + "'", house.fault(0), 4);
        Check.same("place of '" + schedule + "'", house.fault(1), place);
        Check.same("no entry is done", house.total(12), 0);
        Check.same("no step is done", house.total(1), 0);
        Check.same("no waits", house.core(0, 39), 0);
        Check.same("the tape is empty", house.play(), 0);
        Check.same("no fault", house.fault(0), 0);
        Check.same("no place", house.fault(1), 0);
    }

    private static void faults() {
        fault("x", 0);
        fault("s0 x", 3);
        fault("s0s1 0", 5);
        fault("s", 1);
        fault("s ", 1);
        fault("s 0", 1);
        fault("s0d", 3);
        fault("sg", 1);
        fault("sA", 1);
        fault("m0", 2);
        fault("m", 1);
        fault("m0 0", 2);
        fault("m0g", 2);
        fault("mg0", 1);
        fault("r30", 1);
        fault("rf0", 1);
        fault("r2", 2);
        fault("r2;", 2);
        fault("r 20", 1);
        fault("s0;", 2);
        fault("S0", 0);
    }

    private static void waits() {
        CoreHouse house = Check.house("nop;nop;ecall;", 2, 1, 1, 1, 2, 1);
        Check.play(house, "s0");
        Check.same("core 0", house.core(0, 39), 1);
        Check.same("core 1", house.core(1, 39), 1);
        Check.play(house, "m00m00m00");
        Check.same("core 0", house.core(0, 39), 4);
        Check.play(house, "s0");
        Check.same("0 as it retires", house.core(0, 39), 0);
        Check.same("the greatest was", house.core(0, 40), 5);
        Check.same("core 1 waits on", house.core(1, 39), 5);
        Check.play(house, "df");
        Check.same("an idle entry counts", house.core(0, 39), 1);
        Check.same("step retires one", house.step(0), 1);
        Check.same("0 by any call", house.core(0, 39), 0);
        Check.same("the greatest stays", house.core(0, 40), 5);
        Check.play(house, "s0");
        Check.same("ecall retires", house.core(0, 39), 0);
        Check.same("stopped", house.core(0, 33), 1);
        Check.play(house, "s0s0");
        Check.same("no waits behind that", house.core(0, 39), 0);
        Check.same("core 1", house.core(1, 39), 9);
        house.run(2);
        Check.same("core 1 by run", house.core(1, 39), 0);
        Check.same("the greatest", house.core(1, 40), 9);
        CoreHouse place = Check.house("j 2;", 1, 1, 1, 1, 1, 1);
        Check.play(place, "s0m00m00m00s0s0d0");
        Check.same("a place stops it", place.core(0, 33), 3);
        Check.same("nothing retires by that", place.core(0, 39), 1);
        place.assemble();
        Check.same("0 behind assemble", place.core(0, 39) + place.core(0, 40), 0);
    }
}

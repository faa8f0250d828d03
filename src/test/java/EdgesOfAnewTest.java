/** Promise 4: whatever stands when assemble() is called, what comes behind it is as in a house that was never used. */
public final class EdgesOfAnewTest {
    private static final String BUSY = "a:addi x1,x1,1;sw x1,512(x0);lw x2,528(x0);li x3,544;amoadd x4,x1,(x3);sb x1,513(x0);j a;"
        + "org 64;core 1;b:lw x2,512(x0);sw x2,528(x0);j b;org 96;core 2;ecall;org 128;core 3;c:sw x1,544(x0);lw x2,512(x0);j c;";
    private static final int[][] SIZES = {{4, 3, 1, 1, 1, 4}, {4, 2, 1, 2, 2, 4}, {3, 1, 2, 1, 1, 8}, {1, 1, 1, 1, 1, 1},
        {16, 4, 2, 2, 8, 8}, {2, 16, 8, 4, 64, 1}};

    private static long seed;

    public static void main(String[] args) {
        fromEverySize();
        fromEveryMoment();
        Check.end();
    }

    /** The next of a row of numbers that is the same at each run. */
    private static int next(int bound) {
        seed = seed * 6364136223846793005L + 1442695040888963407L;
        return (int) ((seed >>> 33) % bound);
    }

    private static String someEntries(int count, int cores) {
        StringBuilder entries = new StringBuilder();
        for (int i = 0; i < count; i++) {
            int c = next(cores);
            int kind = next(5);
            if (kind < 2) {
                entries.append('s').append(Integer.toHexString(c));
            } else if (kind == 2) {
                entries.append('d').append(Integer.toHexString(c));
            } else {
                entries.append("m0").append(next(4));
            }
        }
        return entries.toString();
    }

    private static void sizes(CoreHouse house, int[] s) {
        Check.yes("sizes", house.sizes(s[0], s[1], s[2], s[3], s[4], s[5]));
    }

    private static void sameFromNowOn(String name, CoreHouse used, CoreHouse fresh, int cores) {
        Check.yes(name + ": at first", State.of(used).isThatOf(fresh));
        for (int i = 0; i < 12; i++) {
            String entries = someEntries(40, cores);
            Check.same(name + ": idle", Check.play(used, entries), Check.play(fresh, entries));
            Check.yes(name + ": behind " + (i + 1) + " schedules", State.of(used).isThatOf(fresh));
        }
        Check.same(name + ": run", used.run(50), fresh.run(50));
        Check.yes(name + ": behind run", State.of(used).isThatOf(fresh));
    }

    private static void fromEverySize() {
        for (int[] before : SIZES) {
            for (int[] behind : SIZES) {
                seed = before[0] * 31 + behind[1];
                CoreHouse used = new CoreHouse();
                sizes(used, before);
                Check.assemble(used, BUSY);
                for (int i = 0; i < 8; i++) {
                    Check.play(used, someEntries(60, before[0]));
                }
                CoreHouse fresh = new CoreHouse();
                sizes(used, behind);
                sizes(fresh, behind);
                Check.same("words", Check.assemble(used, BUSY), Check.assemble(fresh, BUSY));
                sameFromNowOn("from " + before[0] + " to " + behind[0] + " cores", used, fresh, behind[0]);
            }
        }
    }

    /** Requests that wait at the home, shelves that are taken, cores that have stopped: all of it was seen and is gone. */
    private static void fromEveryMoment() {
        boolean waited = false;
        boolean shelved = false;
        boolean stopped = false;
        boolean stored = false;
        for (int times = 0; times < 60; times++) {
            seed = times;
            CoreHouse used = new CoreHouse();
            sizes(used, SIZES[0]);
            Check.assemble(used, BUSY);
            Check.play(used, someEntries(60 + 7 * times, 4));
            for (int c = 0; c < 4; c++) {
                shelved |= used.core(c, 37) >= 0;
                stopped |= used.core(c, 33) > 0;
                stored |= used.core(c, 34) > 0;
            }
            waited |= used.waiting(0) > 0;
            CoreHouse fresh = new CoreHouse();
            sizes(fresh, SIZES[0]);
            Check.same("words", Check.assemble(used, BUSY), Check.assemble(fresh, BUSY));
            sameFromNowOn("moment " + times, used, fresh, 4);
        }
        Check.yes("some waited, were on a shelf, had stopped, had stores", waited && shelved && stopped && stored);
    }
}

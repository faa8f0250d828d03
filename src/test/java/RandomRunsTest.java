import java.util.NoSuchElementException;
import java.util.Random;

/** Random houses, texts and calls: every answer is that of the model, and the caches are as one memory. */
public final class RandomRunsTest {
    private static final int HOUSES = 400;
    private static final int CALLS = 160;

    public static void main(String[] args) {
        for (int seed = 1; seed <= HOUSES; seed++) {
            one(seed);
        }
        Check.end();
    }

    private static void one(int seed) {
        Random random = new Random(seed);
        int[] sizes = sizes(random);
        int[] memory = new int[2048];
        int[] starts = new int[16];
        String text = text(random, memory, starts, sizes[0]);
        CoreHouse house = Check.house(text, sizes);
        Model model = new Model(sizes, memory, starts);
        compare("begin " + seed, house, model);
        int style = random.nextInt(4);
        for (int call = 0; call < CALLS; call++) {
            String name = "seed " + seed + " call " + call;
            int what = random.nextInt(100);
            if (what < 35) {
                int core = random.nextInt(sizes[0]);
                Check.same(name + " step", house.step(core), model.step(core));
            } else if (what < 55) {
                int core = random.nextInt(sizes[0]);
                Check.same(name + " drain", house.drain(core), model.drain(core));
            } else if (what < 88) {
                int k = style == 0 ? 0 : style == 1 ? Math.max(0, house.total(1) - 1) : random.nextInt(house.total(1) + 1);
                Check.same(name + " deliver", house.deliver(k) ? 1 : 0, model.deliver(k) ? 1 : 0);
            } else if (what < 94) {
                int channel = random.nextInt(5) - 1;
                int k = random.nextInt(4) - 1;
                Check.same(name + " deliverOn", house.deliverOn(channel, k) ? 1 : 0, model.deliverOn(channel, k) ? 1 : 0);
            } else if (what < 95) {
                int n = 1 + random.nextInt(4);
                Check.same(name + " run", house.run(n), model.run(n));
            } else {
                String schedule = schedule(random, sizes[0]);
                Check.type(house, schedule);
                Check.same(name + " play", house.play(), model.play(schedule));
            }
            compare(name, house, model);
        }
    }

    private static int[] sizes(Random random) {
        int[] s = new int[6];
        do {
            s[0] = random.nextInt(4) == 0 ? 1 + random.nextInt(16) : 1 + random.nextInt(4);
            s[1] = 1 + random.nextInt(random.nextBoolean() ? 3 : 16);
            s[2] = 1 << random.nextInt(random.nextBoolean() ? 2 : 4);
            s[3] = 1 << random.nextInt(3);
            s[4] = 1 << random.nextInt(7);
            s[5] = 1 + random.nextInt(8);
        } while (s[4] * s[5] < s[0] * s[2] * s[3] || s[4] * s[5] > 4 * s[0] * s[2] * s[3] && random.nextInt(4) > 0);
        return s;
    }

    /** At most ninety words at a few places, and where the cores begin. */
    private static String text(Random random, int[] memory, int[] starts, int cores) {
        StringBuilder text = new StringBuilder();
        for (int c = 0; c < cores; c++) {
            starts[c] = 4 * random.nextInt(20);
            text.append("org ").append(starts[c]).append(";core ").append(c).append(';');
        }
        text.append("org 0;");
        for (int at = 0; text.length() < 1480; at++) {
            memory[at] = instruction(random);
            text.append("word ").append(memory[at]).append(';');
        }
        return text.toString();
    }

    private static int instruction(Random random) {
        int d = random.nextInt(8) << 7;
        int a = random.nextInt(8) << 15;
        int b = random.nextInt(8) << 20;
        int near = (random.nextInt(64) << 4 | random.nextInt(4) << 2) & 0x7ff;
        switch (random.nextInt(15)) {
            case 0:
            case 1:
                return 0x13 | d | a | random.nextInt(1 << 12) << 20;
            case 2:
            case 3:
                return 0x2003 | d | near << 20;
            case 4:
            case 5:
            case 6:
                return 0x2023 | b | (near >> 5) << 25 | (near & 31) << 7;
            case 7:
                return 0x03 | d | (random.nextInt(20) > 0 ? 0 : a) | new int[] {0, 1, 2, 4, 5}[random.nextInt(5)] << 12
                    | (near | (random.nextInt(9) > 0 ? 0 : random.nextInt(4))) << 20;
            case 8:
                near |= random.nextInt(9) > 0 ? 0 : random.nextInt(4);
                return 0x23 | b | random.nextInt(3) << 12 | (near >> 5) << 25 | (near & 31) << 7;
            case 9:
                return 0x202f | d | (random.nextInt(3) > 0 ? 0 : a) | b
                    | new int[] {0, 1, 4, 8, 12, 16, 20, 24, 28}[random.nextInt(9)] << 27 | random.nextInt(4) << 25;
            case 10:
                return 0x63 | a | b | new int[] {0, 1, 4, 5, 6, 7}[random.nextInt(6)] << 12 | (2 + 2 * random.nextInt(7)) << 8;
            case 11:
                return 0x33 | d | a | b | random.nextInt(8) << 12;
            case 12:
                return random.nextBoolean() ? 0x0ff0000f : random.nextBoolean() ? 0x37 | d | random.nextInt(1 << 20) << 12
                    : 0x17 | d | random.nextInt(1 << 20) << 12;
            case 13:
                return random.nextBoolean() ? 0x6f | d | random.nextInt(16) << 22 | random.nextInt(9) / 8 << 21
                    : 0x67 | d | (random.nextInt(9) > 0 ? 0 : a) | random.nextInt(90) << 22 | random.nextInt(9) / 8 << 21;
            default:
                return random.nextInt(6) > 0 ? 0x13 | d | a | random.nextInt(1 << 12) << 20 : random.nextInt();
        }
    }

    private static String schedule(Random random, int cores) {
        StringBuilder schedule = new StringBuilder();
        for (int i = random.nextInt(25); i > 0; i--) {
            int core = random.nextInt(Math.min(16, cores + 1));
            switch (random.nextInt(4)) {
                case 0:
                    schedule.append('s').append(Integer.toHexString(core));
                    break;
                case 1:
                    schedule.append('d').append(Integer.toHexString(core));
                    break;
                case 2:
                    schedule.append("m0").append(Integer.toHexString(random.nextInt(4)));
                    break;
                default:
                    schedule.append('r').append(random.nextInt(3)).append(random.nextInt(3));
                    break;
            }
            schedule.append(" ".repeat(random.nextInt(2)));
        }
        return schedule.toString();
    }

    // ---- comparing all that can be seen

    private static void compare(String name, CoreHouse house, Model model) {
        for (Model.Unit u : model.units) {
            compareCore(name + " core " + u.number, house, model, u);
        }
        for (int line = 0; line < 512; line++) {
            // What throws is dear, so of the lines that have no way only a few are asked for.
            if (model.wayOf(line) != null || line % 97 == 0) {
                compareHome(name + " home " + line, house, model, line);
            }
        }
        for (int set = 0; set < model.homeSets; set++) {
            Check.same(name + " waiting " + set, house.waiting(set), model.queues.get(set).size());
        }
        for (int address = 0; address < 8192; address += 4) {
            Check.same(name + " memory", house.memory(address), model.memory[address / 4]);
            Check.same(name + " word " + address, house.word(address), model.flat[address / 4]);
        }
        Check.same(name + " messages", house.total(1), model.pool.size());
        for (int k = 0; k < model.pool.size(); k++) {
            Model.Message m = model.pool.get(k);
            int[] due = {Model.kindOf(m), m.from, m.to, m.line, m.words == null ? 0 : 1, 0, 0, 0, 0, Model.channelOf(m)};
            for (int i = 0; i < 4 && m.words != null; i++) {
                due[5 + i] = m.words[i];
            }
            for (int what = 0; what < 10; what++) {
                Check.same(name + " message " + k + " " + what, house.message(k, what), due[what]);
            }
        }
        int lines = 0;
        for (Model.Way[] set : model.home) {
            for (Model.Way way : set) {
                lines += way.line == null ? 0 : 1;
            }
        }
        int[] totals = {model.units.length, model.pool.size(), model.retired(), model.delivered, model.changed,
            model.recalls, lines, model.buffer, model.sets, model.ways, model.homeSets, model.homeWays, model.entries,
            model.idle};
        for (int what = 0; what < totals.length; what++) {
            Check.same(name + " total " + what, house.total(what), totals[what]);
        }
    }

    private static void compareCore(String name, CoreHouse house, Model model, Model.Unit u) {
        for (int i = 0; i < 32; i++) {
            Check.same(name + " x" + i, house.core(u.number, i), u.x[i]);
        }
        int[] due = {u.place, u.cause, u.buffer.size(), u.retired, u.request == null ? -1 : u.request,
            u.shelf == null ? -1 : u.shelf, u.misses, u.waits, u.greatest};
        for (int i = 0; i < due.length; i++) {
            Check.same(name + " what " + (32 + i), house.core(u.number, 32 + i), due[i]);
        }
        int at = 100;
        for (Model.Store store : u.buffer) {
            int bytes = 0;
            int data = 0;
            for (int i = 0; i < 4; i++) {
                bytes |= store.has[i] ? 1 << i : 0;
                data |= store.has[i] ? store.bytes[i] << 8 * i : 0;
            }
            Check.same(name + " store", house.core(u.number, at), store.address);
            Check.same(name + " store's bytes", house.core(u.number, at + 1), bytes);
            Check.same(name + " store's data", house.core(u.number, at + 2), data);
            at += 3;
        }
        int end = at;
        Check.fails(name + " no store", NoSuchElementException.class, () -> house.core(u.number, end));
        for (int k = 0; k < u.trace.size(); k++) {
            for (int what = 0; what < 8; what++) {
                Check.same(name + " trace " + k + " " + what, house.trace(u.number, k, what), u.trace.get(k)[what]);
            }
        }
        Check.fails(name + " no trace", NoSuchElementException.class, () -> house.trace(u.number, u.trace.size(), 0));
        for (int line = 0; line < 512; line++) {
            Model.Copy copy = model.copyOf(u, line);
            Check.same(name + " cached " + line, house.cached(u.number, line), copy == null ? 0 : " SEM".indexOf(copy.state));
            for (int i = 0; i < 4 && copy != null; i++) {
                Check.same(name + " copy", house.copy(u.number, 16 * line + 4 * i), copy.words[i]);
                Check.same(name + " copy is the word", copy.words[i], model.flat[4 * line + i]);
            }
            if (copy != null && copy.state != 'S') {
                aloneWith(name, model, u, line);
            }
        }
    }

    private static void aloneWith(String name, Model model, Model.Unit owner, int line) {
        for (Model.Unit u : model.units) {
            Check.yes(name + " has " + line + " alone", u == owner || model.copyOf(u, line) == null);
        }
    }

    private static void compareHome(String name, CoreHouse house, Model model, int line) {
        Model.Way way = model.wayOf(line);
        if (way == null) {
            Check.fails(name, NoSuchElementException.class, () -> house.home(line, 0));
            return;
        }
        int bits = 0;
        for (int c : way.sharers) {
            bits |= 1 << c;
        }
        int[] due = {way.owner == null ? -1 : way.owner, bits, way.about == null ? -1 : way.about, way.acks,
            way.changed ? 1 : 0, way.words[0], way.words[1], way.words[2], way.words[3],
            java.util.List.of(model.home[line % model.homeSets]).indexOf(way)};
        for (int what = 0; what < due.length; what++) {
            Check.same(name + " " + what, house.home(line, what), due[what]);
        }
    }
}

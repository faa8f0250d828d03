/** What the tests share: counting wrong answers, typing texts, making houses. */
final class Check {
    interface Call {
        long answer();
    }

    private static int wrong = 0;

    private Check() {
    }

    static void same(String what, long got, long due) {
        if (got != due) {
            wrong++;
            System.out.println(what + " answered " + got + ", due is " + due);
        }
    }

    static void yes(String what, boolean got) {
        same(what, got ? 1 : 0, 1);
    }

    static void no(String what, boolean got) {
        same(what, got ? 1 : 0, 0);
    }

    /** The call throws exactly this exception, and no other. */
    static void fails(String what, Class<?> due, Call call) {
        String got;
        try {
            got = "answered " + call.answer();
        } catch (RuntimeException e) {
            if (e.getClass() == due) {
                return;
            }
            got = "threw " + e;
        }
        wrong++;
        System.out.println(what + " " + got + ", due is " + due.getName());
    }

    static void end() {
        if (wrong > 0) {
            System.out.println(wrong + " wrong");
            System.exit(1);
        }
    }

    static void type(CoreHouse house, String text) {
        for (int at = 0; at < text.length(); at += 8) {
            int n = Math.min(8, text.length() - at);
            long word = 0;
            for (int i = 0; i < n; i++) {
                word = word << 8 | text.charAt(at + i);
            }
            yes("type of '" + text.substring(at, at + n) + "'", house.type(word, n));
        }
    }

    static int assemble(CoreHouse house, String text) {
        type(house, text);
        return house.assemble();
    }

    /** A house of these cores, stores, sets, ways, home's sets and ways with this text. */
    static CoreHouse house(String text, int... sizes) {
        CoreHouse house = new CoreHouse();
        if (sizes.length == 6) {
            yes("sizes", house.sizes(sizes[0], sizes[1], sizes[2], sizes[3], sizes[4], sizes[5]));
        }
        assemble(house, text);
        return house;
    }

    static int play(CoreHouse house, String schedule) {
        type(house, schedule);
        return house.play();
    }

    /** The text has this fault at this place. */
    static void fault(String text, int kind, int place) {
        CoreHouse house = new CoreHouse();
        type(house, text);
        fails("assemble of '" + text + "'", IllegalArgumentException.class, house::assemble);
        same("kind of the fault of '" + text + "'", house.fault(0), kind);
        same("place of the fault of '" + text + "'", house.fault(1), place);
    }

    static void deliverAll(CoreHouse house) {
        for (int i = 0; i < 100000 && house.deliver(0); i++) {
            continue;
        }
        same("messages that are left", house.total(1), 0);
    }

    /** Steps with all deliveries between until the core retires one. */
    static void retire(CoreHouse house, int core, int times) {
        for (int i = 0; i < times; i++) {
            int answer = 2;
            for (int tries = 0; tries < 20 && answer != 1; tries++) {
                answer = house.step(core);
                deliverAll(house);
            }
            same("step " + i + " of core " + core, answer, 1);
        }
    }
}

import java.util.Arrays;
import java.util.NoSuchElementException;

/** All that can be seen of a house (but for its fault), for telling whether a call changed anything. */
final class State {
    private int[] answers = new int[16384];
    private int count = 0;

    private State() {
    }

    static State of(CoreHouse house) {
        State state = new State();
        for (int what = 0; what <= 13; what++) {
            state.add(house.total(what));
        }
        for (int core = 0; core < house.total(0); core++) {
            state.addCore(house, core);
        }
        for (int line = 0; line < 512; line++) {
            state.addLine(house, line);
        }
        for (int set = 0; set < house.total(10); set++) {
            state.add(house.waiting(set));
        }
        for (int address = 0; address < 8192; address += 4) {
            state.add(house.memory(address));
            state.add(house.word(address));
        }
        for (int k = 0; k < house.total(1); k++) {
            for (int what = 0; what <= 9; what++) {
                state.add(house.message(k, what));
            }
        }
        return state;
    }

    private void addCore(CoreHouse house, int core) {
        for (int what = 0; what <= 40; what++) {
            add(house.core(core, what));
        }
        for (int i = 0; i < 3 * house.core(core, 34); i++) {
            add(house.core(core, 100 + i));
        }
        for (int k = 0; k < Math.min(32, house.core(core, 35)); k++) {
            for (int what = 0; what <= 7; what++) {
                add(house.trace(core, k, what));
            }
        }
        for (int line = 0; line < 512; line++) {
            add(house.cached(core, line));
            for (int i = 0; i < 4 && house.cached(core, line) > 0; i++) {
                add(house.copy(core, 16 * line + 4 * i));
            }
        }
    }

    private void addLine(CoreHouse house, int line) {
        try {
            for (int what = 0; what <= 9; what++) {
                add(house.home(line, what));
            }
        } catch (NoSuchElementException e) {
            add(-7);
        }
    }

    private void add(int answer) {
        if (count == answers.length) {
            answers = Arrays.copyOf(answers, 2 * count);
        }
        answers[count] = answer;
        count++;
    }

    boolean isThatOf(CoreHouse house) {
        State other = of(house);
        return count == other.count && Arrays.equals(answers, 0, count, other.answers, 0, count);
    }

    /** The call leaves all as it was; what it answers or throws is not looked at here. */
    static void stays(String what, CoreHouse house, Check.Call call) {
        State before = of(house);
        try {
            call.answer();
        } catch (RuntimeException e) {
            // A refused call: only what it leaves behind counts here.
        }
        Check.yes(what + " leaves all as it was", before.isThatOf(house));
    }
}

import java.util.ArrayList;
import java.util.List;
import java.util.Random;
import java.util.TreeSet;
import java.util.regex.Matcher;
import java.util.regex.Pattern;

/** Random texts and schedules, whole and broken: words, beginnings and faults are those of a second reading. */
public final class RandomTextsTest {
    private static final int TEXTS = 6000;
    private static final int SCHEDULES = 3000;
    private static final String[] NAMES = {"a", "b", "loop", "x1", "add", "li", "end00001", "zz", "x32"};
    private static final long[] EDGES = {0, 1, 2, 3, 4, 15, 16, 31, 32, 2046, 2047, 2048, 2049, 4094, 4095, 4096, 4098, 8184,
        8188, 8190, 8192, 1048574, 1048575, 1048576, 1048578, 2147483647, 2147483648L, 2147483649L, 4294965247L,
        4294965248L, 4294967295L, 4294967296L, 9999999999L};
    private static final String MARKS = " :;,()-0123456789abcdefsmrx$A~";
    private static final Pattern SCHEDULE = Pattern.compile("(?: |[sd][0-9a-f]|m[0-9a-f][0-9a-f]|r[0-2][0-9a-f])*+");
    private static final List<String> WORDS = new ArrayList<>(new TreeSet<>(TextModel.BY_NAME.keySet()));

    public static void main(String[] args) {
        for (int seed = 1; seed <= TEXTS; seed++) {
            Random random = new Random(seed);
            String text = text(random);
            oneText(random.nextInt(3) == 0 ? broken(random, text) : text);
        }
        for (int seed = 1; seed <= SCHEDULES; seed++) {
            oneSchedule(new Random(seed));
        }
        Check.end();
    }

    // ---- texts

    private static void oneText(String text) {
        TextModel due = new TextModel(text);
        CoreHouse house = Check.house("word 7;", 16, 1, 1, 1, 16, 1);
        Check.type(house, text);
        String name = "'" + text + "'";
        if (due.kind != 0) {
            Check.fails(name, IllegalArgumentException.class, house::assemble);
            Check.same(name + " leaves memory", house.memory(0), 7);
        } else {
            Check.same(name, house.assemble(), due.told);
            for (int i = 0; i < 2048; i++) {
                Check.same(name + " word " + i, house.memory(4 * i), due.memory[i]);
            }
            for (int c = 0; c < 16; c++) {
                Check.same(name + " core " + c, house.core(c, 32), due.begins[c]);
            }
        }
        Check.same(name + " kind", house.fault(0), due.kind);
        Check.same(name + " place", house.fault(1), due.place);
    }

    private static String text(Random random) {
        StringBuilder text = new StringBuilder();
        // Many texts must be without fault, so most labels are told once each, and some texts use none.
        int style = random.nextInt(4);
        List<String> left = new ArrayList<>(List.of(NAMES));
        int statements = random.nextInt(12);
        for (int i = 0; i < statements; i++) {
            while (style > 0 && random.nextInt(3) == 0) {
                boolean anew = random.nextInt(25) > 0 && !left.isEmpty();
                String name = anew ? left.remove(random.nextInt(left.size())) : NAMES[random.nextInt(NAMES.length)];
                text.append(name).append(blanks(random)).append(':').append(blanks(random));
            }
            if (random.nextInt(12) > 0) {
                statement(random, text, style);
            }
            text.append(blanks(random)).append(';').append(blanks(random));
        }
        for (String name : left) {
            if (style > 1) {
                text.append(name).append(':');
            }
        }
        return style > 1 ? text.append(';').toString() : text.toString();
    }

    private static String blanks(Random random) {
        return " ".repeat(random.nextInt(5) / 4);
    }

    private static void statement(Random random, StringBuilder text, int style) {
        String[] word = TextModel.BY_NAME.get(WORDS.get(random.nextInt(WORDS.size())));
        text.append(word[0]).append(' ');
        for (char what : word[1].toCharArray()) {
            text.append(blanks(random));
            if (what == 'a' || what == 'b' || what == 'd') {
                text.append('x').append(random.nextInt(300) == 0 ? 32 : random.nextInt(32));
            } else if (what == 'n') {
                number(random, text, word[2].charAt(0));
            } else if (what == 'N' && style > 0 && random.nextInt(3) == 0) {
                text.append(NAMES[random.nextInt(NAMES.length)]);
            } else if (what == 'N') {
                text.append(random.nextInt(4) == 0 ? "-" + blanks(random) : "");
                number(random, text, word[2].charAt(0));
            } else {
                text.append(what);
            }
        }
    }

    /** Mostly one that fits; sometimes one at or beyond an edge. */
    private static void number(Random random, StringBuilder text, char form) {
        long most = "WLUJ".indexOf(form) >= 0 ? 1048574 : form == 'H' ? 31 : form == 'C' ? 15 : 2047;
        long n = random.nextInt((int) most + 1) & (form == 'O' ? ~3 : "BJ".indexOf(form) >= 0 ? ~1 : -1);
        if (random.nextInt(8) == 0) {
            n = EDGES[random.nextInt(EDGES.length)];
        }
        if (random.nextInt(3) == 0 && n <= 4294967295L) {
            text.append("0x").append(Long.toHexString(n));
        } else {
            text.append(random.nextInt(9) == 0 && n < 1000 ? "000" : "").append(n);
        }
    }

    /** Cut, or with a mark gone, put in or changed. */
    private static String broken(Random random, String text) {
        int at = random.nextInt(text.length() + 1);
        int behind = Math.min(text.length(), at + 1);
        char mark = MARKS.charAt(random.nextInt(MARKS.length()));
        switch (random.nextInt(4)) {
            case 0:
                return text.substring(0, at);
            case 1:
                return text.substring(0, at) + text.substring(behind);
            case 2:
                return text.substring(0, at) + mark + text.substring(at);
            default:
                return text.substring(0, at) + mark + text.substring(behind);
        }
    }

    // ---- schedules

    private static void oneSchedule(Random random) {
        CoreHouse house = Check.house("", 3, 1, 1, 1, 4, 1);
        StringBuilder text = new StringBuilder();
        for (int i = random.nextInt(10); i > 0; i--) {
            text.append("sdmr".charAt(random.nextInt(4)));
            if (text.charAt(text.length() - 1) == 'r') {
                text.append(random.nextInt(3));
            } else if (text.charAt(text.length() - 1) == 'm') {
                text.append(Integer.toHexString(random.nextInt(16)));
            }
            text.append(Integer.toHexString(random.nextInt(16))).append(blanks(random));
        }
        String schedule = random.nextBoolean() ? broken(random, text.toString()) : text.toString();
        int place = faultOf(schedule);
        Check.type(house, schedule);
        String name = "'" + schedule + "'";
        if (place >= 0) {
            Check.fails(name, IllegalArgumentException.class, house::play);
            Check.same(name + " does nothing", house.total(12), 0);
        } else {
            Check.same(name + " idle", house.play(), house.total(13));
            Check.same(name + " entries", house.total(12), entries(schedule));
        }
        Check.same(name + " kind", house.fault(0), place >= 0 ? 4 : 0);
        Check.same(name + " place", house.fault(1), Math.max(place, 0));
    }

    /** The shortest beginning that no schedule has ends with the mark that can't stand. */
    private static int faultOf(String schedule) {
        if (SCHEDULE.matcher(schedule).matches()) {
            return -1;
        }
        for (int i = 0; i < schedule.length(); i++) {
            Matcher matcher = SCHEDULE.matcher(schedule.substring(0, i + 1));
            if (!matcher.matches() && !matcher.hitEnd()) {
                return i;
            }
        }
        return schedule.length();
    }

    private static int entries(String schedule) {
        int sum = 0;
        Matcher matcher = Pattern.compile("[sd].|[mr]..").matcher(schedule);
        while (matcher.find()) {
            sum++;
        }
        return sum;
    }
}

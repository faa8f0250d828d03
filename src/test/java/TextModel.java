import java.util.ArrayList;
import java.util.HashMap;
import java.util.List;
import java.util.Map;
import java.util.regex.Matcher;
import java.util.regex.Pattern;

/** The document's assembler once more, written with the Java library, for comparing. */
final class TextModel {
    private static final Pattern TOKEN = Pattern.compile("[a-z][a-z0-9]*|0x[0-9a-f]*|[0-9]+|[:;,()-]|[^ ]");
    private static final Pattern GOOD = Pattern.compile("[a-z][a-z0-9]{0,7}|0x[0-9a-f]{1,8}|[0-9]{1,10}|[:;,()-]");
    private static final Pattern REGISTER = Pattern.compile("x([0-9]|[12][0-9]|3[01])");

    /** Each word with its operands, the limits of its number, and its bits as RISC-V's tables have them. */
    private static final String[] WORDS = {
        "add d,a,b R 0 0", "sub d,a,b R 0 32", "sll d,a,b R 1 0", "slt d,a,b R 2 0", "sltu d,a,b R 3 0",
        "xor d,a,b R 4 0", "srl d,a,b R 5 0", "sra d,a,b R 5 32", "or d,a,b R 6 0", "and d,a,b R 7 0",
        "addi d,a,N I 0 19", "slti d,a,N I 2 19", "sltiu d,a,N I 3 19", "xori d,a,N I 4 19", "ori d,a,N I 6 19",
        "andi d,a,N I 7 19", "slli d,a,N H 1 0", "srli d,a,N H 5 0", "srai d,a,N H 5 32",
        "lb d,N(a) I 0 3", "lh d,N(a) I 1 3", "lw d,N(a) I 2 3", "lbu d,N(a) I 4 3", "lhu d,N(a) I 5 3",
        "sb b,N(a) S 0 0", "sh b,N(a) S 1 0", "sw b,N(a) S 2 0",
        "beq a,b,N B 0 0", "bne a,b,N B 1 0", "blt a,b,N B 4 0", "bge a,b,N B 5 0", "bltu a,b,N B 6 0", "bgeu a,b,N B 7 0",
        "lui d,N U 0 55", "auipc d,N U 0 23", "jal d,N J 0 0", "jalr d,N(a) I 0 103",
        "amoswap d,b,(a) A 0 1", "amoadd d,b,(a) A 0 0", "amoxor d,b,(a) A 0 4", "amoand d,b,(a) A 0 12",
        "amoor d,b,(a) A 0 8", "amomin d,b,(a) A 0 16", "amomax d,b,(a) A 0 20", "amominu d,b,(a) A 0 24",
        "amomaxu d,b,(a) A 0 28", "fence  X 0 267386895", "ecall  X 0 115", "ebreak  X 0 1048691", "nop  X 0 19",
        "mv d,a I 0 19", "not d,a I 4 19", "neg d,b R 0 32", "j N J 0 0", "ret  X 0 32871",
        "beqz a,N B 0 0", "bnez a,N B 1 0", "li d,N L 0 0", "word N W 0 0", "org n O 0 0", "core n C 0 0"};

    static final Map<String, String[]> BY_NAME = new HashMap<>();

    static {
        for (String word : WORDS) {
            String[] parts = word.split(" ", -1);
            BY_NAME.put(parts[0], parts);
        }
    }

    /** A statement's word with what stood behind it. */
    private static final class Item {
        String[] word;
        int place;
        int address;
        int size;
        final Map<Character, Integer> registers = new HashMap<>();
        String label;
        Long number;
        int numberPlace;
    }

    private final List<String> tokens = new ArrayList<>();
    private final List<Integer> starts = new ArrayList<>();
    private final List<Item> items = new ArrayList<>();
    private final Map<String, Integer> labels = new HashMap<>();
    private int at;
    private int next;
    int kind;
    int place;
    int told;
    final int[] memory = new int[2048];
    final int[] begins = new int[16];

    TextModel(String text) {
        Matcher matcher = TOKEN.matcher(text);
        while (matcher.find()) {
            tokens.add(GOOD.matcher(matcher.group()).matches() ? matcher.group() : "?");
            starts.add(matcher.start());
        }
        tokens.add("");
        starts.add(text.length());
        int wrong = read();
        if (wrong >= 0) {
            // Faults of kinds 2 and 3 are told only if there is none of kind 1.
            kind = 1;
            place = starts.get(wrong);
            return;
        }
        for (Item item : items) {
            judge(item);
        }
        if (kind == 0) {
            for (Item item : items) {
                write(item);
            }
        }
    }

    /** The index of the token that cannot stand, or -1. */
    private int read() {
        while (!tokens.get(at).isEmpty()) {
            while (isName(tokens.get(at)) && tokens.get(at + 1).equals(":")) {
                tell(tokens.get(at), starts.get(at));
                at += 2;
            }
            if (isName(tokens.get(at))) {
                if (tokens.get(at + 1).equals("?")) {
                    return at + 1;
                }
                String[] word = BY_NAME.get(tokens.get(at));
                if (word == null) {
                    return at;
                }
                Item item = new Item();
                item.word = word;
                item.place = starts.get(at);
                at++;
                if (!operands(item)) {
                    return at;
                }
                if (!tokens.get(at).equals(";")) {
                    return at;
                }
                lay(item);
            } else if (!tokens.get(at).equals(";")) {
                return at;
            }
            at++;
        }
        return -1;
    }

    private static boolean isName(String token) {
        return !token.isEmpty() && token.charAt(0) >= 'a' && token.charAt(0) <= 'z';
    }

    private static boolean isNumber(String token) {
        return !token.isEmpty() && token.charAt(0) >= '0' && token.charAt(0) <= '9';
    }

    private void tell(String label, int where) {
        if (labels.putIfAbsent(label, next) != null) {
            fault(2, where);
        }
    }

    private void fault(int which, int where) {
        if (kind == 0 || where < place || where == place && which < kind) {
            kind = which;
            place = where;
        }
    }

    private boolean operands(Item item) {
        for (char what : item.word[1].toCharArray()) {
            String token = tokens.get(at);
            if (what == 'd' || what == 'a' || what == 'b') {
                Matcher register = REGISTER.matcher(token);
                if (!register.matches()) {
                    return false;
                }
                item.registers.put(what, Integer.parseInt(register.group(1)));
            } else if (what == 'N' || what == 'n') {
                item.numberPlace = starts.get(at);
                boolean minus = what == 'N' && token.equals("-");
                if (minus) {
                    at++;
                    token = tokens.get(at);
                }
                if (isNumber(token)) {
                    item.number = Long.decode((minus ? "-" : "") + token.replaceFirst("^0+(?=[0-9])", ""));
                } else if (what == 'N' && !minus && isName(token)) {
                    item.label = token;
                } else {
                    return false;
                }
            } else if (!token.equals(String.valueOf(what))) {
                return false;
            }
            at++;
        }
        return true;
    }

    private char form(Item item) {
        return item.word[2].charAt(0);
    }

    private void lay(Item item) {
        item.address = next;
        items.add(item);
        if (form(item) == 'O') {
            next = within('O', item.number) ? item.number.intValue() : 8192;
        } else if (form(item) == 'C') {
            if (within('C', item.number)) {
                begins[item.number.intValue()] = next % 8192;
            }
        } else {
            boolean two = form(item) == 'L' && (item.label != null || item.number < -2048 || item.number > 2047);
            item.size = two ? 2 : 1;
            told += item.size;
            next += 4 * item.size;
        }
    }

    private static boolean within(char form, long n) {
        switch (form) {
            case 'W':
            case 'L':
                return -2147483648L <= n && n <= 4294967295L;
            case 'U':
                return 0 <= n && n <= 1048575;
            case 'H':
                return 0 <= n && n <= 31;
            case 'B':
                return n % 2 == 0 && -4096 <= n && n <= 4094;
            case 'J':
                return n % 2 == 0 && -1048576 <= n && n <= 1048574;
            case 'O':
                return n % 4 == 0 && 0 <= n && n <= 8188;
            case 'C':
                return 0 <= n && n <= 15;
            default:
                return -2048 <= n && n <= 2047;
        }
    }

    private void judge(Item item) {
        if (item.size > 0 && item.address + 4 * item.size - 1 > 8191) {
            fault(3, item.place);
        }
        if (item.label != null) {
            Integer address = labels.get(item.label);
            if (address == null) {
                fault(2, item.numberPlace);
                return;
            }
            boolean far = form(item) == 'B' || form(item) == 'J';
            item.number = (long) address - (far ? item.address : 0);
        }
        if (item.number != null && !within(form(item), item.number)) {
            fault(3, item.numberPlace);
        }
    }

    private static int field(long value, int high, int low, int to) {
        return (int) ((value >> low & (1L << high - low + 1) - 1) << to);
    }

    private void write(Item item) {
        int d = item.registers.getOrDefault('d', 0) << 7;
        int a = item.registers.getOrDefault('a', 0) << 15;
        int b = item.registers.getOrDefault('b', 0) << 20;
        int f3 = Integer.parseInt(item.word[3]) << 12;
        int extra = Integer.parseInt(item.word[4]);
        long n = item.number == null ? 0 : item.number;
        int w = item.address / 4;
        switch (form(item)) {
            case 'R':
                memory[w] = 51 | d | f3 | a | b | extra << 25;
                break;
            case 'I':
                long low = item.word[0].equals("not") ? -1 : n;
                memory[w] = extra | d | f3 | a | field(low, 11, 0, 20);
                break;
            case 'H':
                memory[w] = 19 | d | f3 | a | field(n, 4, 0, 20) | extra << 25;
                break;
            case 'S':
                memory[w] = 35 | field(n, 4, 0, 7) | f3 | a | b | field(n, 11, 5, 25);
                break;
            case 'B':
                memory[w] = 99 | field(n, 11, 11, 7) | field(n, 4, 1, 8) | f3 | a | b | field(n, 10, 5, 25)
                    | field(n, 12, 12, 31);
                break;
            case 'U':
                memory[w] = extra | d | field(n, 19, 0, 12);
                break;
            case 'J':
                memory[w] = 111 | d | field(n, 19, 12, 12) | field(n, 11, 11, 20) | field(n, 10, 1, 21)
                    | field(n, 20, 20, 31);
                break;
            case 'A':
                memory[w] = 47 | d | 2 << 12 | a | b | extra << 27;
                break;
            case 'L':
                writeNumber(item, w, d, n);
                break;
            case 'W':
                memory[w] = (int) n;
                break;
            case 'X':
                memory[w] = extra;
                break;
            default:
                break;
        }
    }

    private void writeNumber(Item item, int w, int d, long n) {
        if (item.size == 1) {
            memory[w] = 19 | d | field(n, 11, 0, 20);
            return;
        }
        long low = n & 4095;
        long high = low >= 2048 ? (n >> 12) + 1 : n >> 12;
        memory[w] = 55 | d | field(high, 19, 0, 12);
        memory[w + 1] = 19 | d | d << 8 | field(low, 11, 0, 20);
    }
}

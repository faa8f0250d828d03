/** Promises 4 and 5 at their boundaries: tokens, labels, numbers, addresses, and which fault is told. */
public final class EdgesOfTextTest {
    private static final String[] LOW = {"addi x1,x2,", "slti x1,x2,", "sltiu x1,x2,", "xori x1,x2,", "ori x1,x2,", "andi x1,x2,",
        "lb x1,", "lh x1,", "lw x1,", "lbu x1,", "lhu x1,", "sb x1,", "sh x1,", "sw x1,", "jalr x1,"};
    private static final String[] BRANCHES = {"beq x1,x2,", "bne x1,x2,", "blt x1,x2,", "bge x1,x2,", "bltu x1,x2,",
        "bgeu x1,x2,", "beqz x1,", "bnez x1,"};
    private static final String[] SHIFTS = {"slli x1,x2,", "srli x1,x2,", "srai x1,x2,"};

    public static void main(String[] args) {
        emptyTexts();
        lengthOfNames();
        lengthOfNumbers();
        otherCharacters();
        charactersWithin();
        everyRegister();
        blanksAnywhere();
        endsTooEarly();
        namesWithoutColon();
        anyNameIsALabel();
        lowNumbers();
        shiftNumbers();
        upperNumbers();
        branchNumbers();
        jumpNumbers();
        wordNumbers();
        orgNumbers();
        coreNumbers();
        labelsAsNumbers();
        labelsBehindTheEnd();
        loadNumbers();
        beyondTheEnd();
        labelFaults();
        leastPlace();
        toldTwice();
        coresBegin();
        faultOfTheLatest();
        faultLeavesAll();
        nothingIsLeftOfAnEarlierTape();
        everyBitOfANumber();
        manyStatements();
        Check.end();
    }

    private static CoreHouse good(String text, int words) {
        CoreHouse house = new CoreHouse();
        Check.type(house, text);
        int got = -1;
        try {
            got = house.assemble();
        } catch (IllegalArgumentException e) {
            got = -2;
        }
        Check.same("words of '" + text + "'", got, words);
        Check.same("kind of no fault of '" + text + "'", house.fault(0), 0);
        Check.same("place of no fault of '" + text + "'", house.fault(1), 0);
        return house;
    }

    /** The number fits, and with another number there it is a fault of kind 3 at its first token. */
    private static void fits(String ahead, String behind, long... numbers) {
        for (long n : numbers) {
            good(ahead + n + behind + ";", ahead.startsWith("org") || ahead.startsWith("core") ? 0
                : ahead.startsWith("li") && (n < -2048 || n > 2047) ? 2 : 1);
        }
    }

    private static void fitsNot(String ahead, String behind, long... numbers) {
        for (long n : numbers) {
            Check.fault(ahead + n + behind + ";", 3, ahead.length());
            Check.fault("nop; " + ahead + " " + n + " " + behind + ";", 3, ahead.length() + 6);
        }
    }

    private static void emptyTexts() {
        good("", 0);
        good(" ", 0);
        good(";", 0);
        good(" ; ;;  ", 0);
        good("a:;", 0);
        good("a:b:c:;d:;", 0);
        good("a: ; b :;", 0);
        good("nop;", 1);
        Check.fault("nop", 1, 3);
        Check.fault(";nop", 1, 4);
    }

    private static void lengthOfNames() {
        good("a:j a;", 1);
        good("abcdefgh:j abcdefgh;", 1);
        good("a2345678:j a2345678;", 1);
        Check.fault("abcdefghi:;", 1, 0);
        Check.fault("j abcdefghi;", 1, 2);
        Check.fault("nop;a23456789:;", 1, 4);
        Check.fault("nop;abcdefghijklmnopqrstuvwxyz:;", 1, 4);
        // Names of eight are told apart by their last character.
        Check.fault("abcdefgh:j abcdefgi;", 2, 11);
        Check.fault("bbcdefgh:j abcdefgh;", 2, 11);
        good("abcdefgh:abcdefg:abcdefgi:;", 0);
        good("z9:a0:z:;", 0);
        Check.fault("9a:;", 1, 0);
        Check.fault("0:;", 1, 0);
    }

    private static void lengthOfNumbers() {
        good("word 0;", 1);
        good("word 4294967295;", 1);
        good("word 0000000001;", 1);
        Check.fault("word 00000000001;", 1, 5);
        Check.fault("word 99999999999999999999999999;", 1, 5);
        Check.fault("word - 00000000001;", 1, 7);
        Check.fault("word 9999999999;", 3, 5);
        good("word 0x0;", 1);
        good("word 0x00000001;", 1);
        Check.same("0xffffffff", good("word 0xffffffff;", 1).memory(0), -1);
        Check.same("0x09afAF has only small letters", good("word 0x09af;", 1).memory(0), 0x9af);
        Check.fault("word 0x000000001;", 1, 5);
        Check.fault("word 0x;", 1, 5);
        Check.fault("word 0x ;", 1, 5);
        Check.fault("word 0x", 1, 5);
        Check.fault("word 0xg;", 1, 5);
        Check.fault("word 0x9g;", 1, 8);
        Check.fault("word 0x9A;", 1, 8);
        Check.fault("word 0x9F;", 1, 8);
        Check.fault("word 0X9;", 1, 6);
        Check.fault("word 1x9;", 1, 6);
        good("word -0x80000000;", 1);
        Check.fault("word -0x80000001;", 3, 5);
        Check.same("-0", good("word -0;", 1).memory(0), 0);
        good("org 0x1ffc;nop;", 1);
        good("core 0xf;", 0);
    }

    /** Every character of 32 to 126 at the place of a statement. */
    private static void otherCharacters() {
        for (char mark = 32; mark <= 126; mark++) {
            String text = "nop;" + mark + ";";
            if (mark == ' ' || mark == ';') {
                good(text, 1);
            } else {
                Check.fault(text, 1, mark == 'j' ? 5 : 4);
            }
            boolean token = mark == ':' || mark == ',' || mark == '(' || mark == ')' || mark == '-' || mark == ';'
                || mark >= '0' && mark <= '9' || mark >= 'a' && mark <= 'z';
            // Behind a name that is no word only what is no token is told, or a colon that makes it a label.
            if (mark != ' ') {
                Check.fault("foo " + mark, 1, mark == ':' ? 5 : token ? 0 : 4);
            }
            // Behind a number only the comma, the brackets and so on are tokens; none of them but ; can stand.
            boolean digit = mark >= '0' && mark <= '9';
            if (!digit && mark != ' ' && mark != ';') {
                Check.fault("word 7" + mark, 1, 6);
            }
        }
        good("foo :;", 0);
    }

    /** Every character of 32 to 126 right behind a name, a number, a number with 0x, and a register. */
    private static void charactersWithin() {
        for (char mark = 33; mark <= 126; mark++) {
            boolean digit = mark >= '0' && mark <= '9';
            boolean letter = mark >= 'a' && mark <= 'z';
            String label = "ab" + mark + ":;";
            if (digit || letter) {
                good(label, 0);
            } else {
                boolean sign = mark == ',' || mark == '(' || mark == ')' || mark == '-' || mark == ';';
                Check.fault(label, 1, mark == ':' ? 3 : sign ? 0 : 2);
            }
            if (mark != ';') {
                String hex = "word 0x7" + mark + ";";
                if (digit || mark >= 'a' && mark <= 'f') {
                    Check.same(hex, good(hex, 1).memory(0), 0x70 + Character.digit(mark, 16));
                } else {
                    Check.fault(hex, 1, 8);
                }
                String decimal = "word 7" + mark + ";";
                if (digit) {
                    Check.same(decimal, good(decimal, 1).memory(0), 70 + mark - '0');
                } else {
                    Check.fault(decimal, 1, 6);
                }
            }
            if (!digit && !letter && mark != ',') {
                Check.fault("mv x1" + mark + ",x2;", 1, 5);
            }
        }
    }

    private static void everyRegister() {
        for (int r = 0; r <= 31; r++) {
            CoreHouse house = good("add x" + r + ",x0,x0;add x0,x" + r + ",x0;add x0,x0,x" + r + ";", 3);
            Check.same("d x" + r, house.memory(0), 0x33 | r << 7);
            Check.same("a x" + r, house.memory(4), 0x33 | r << 15);
            Check.same("b x" + r, house.memory(8), 0x33 | r << 20);
        }
        String[] none = {"x32", "x33", "x39", "x40", "x99", "x100", "x310", "x00", "x01", "x09", "x031", "x", "xx", "x1a", "xa1",
            "y1", "a0", "x1x", "1", "-", "-1", "(", "w1", "ax1", "x3x", "x29999", "x1234567", "xxx1", "x:"};
        for (String one : none) {
            Check.fault("add " + one + ",x1,x1;", 1, 4);
            Check.fault("add x1," + one + ",x1;", 1, 7);
            Check.fault("add x1,x1," + one + ";", 1, 10);
            Check.fault("lw x1,0(" + one + ");", 1, 8);
        }
    }

    private static void blanksAnywhere() {
        CoreHouse plain = good("a:lw x1,-4(x2);amoadd x3,x4,(x5);j a;li x6,-9;", 4);
        CoreHouse wide = good("  a  :  lw   x1  ,  -   4  (  x2  )  ;  amoadd  x3 , x4 , ( x5 ) ; j  a ; li  x6 , -  9 ;  ", 4);
        for (int i = 0; i < 4; i++) {
            Check.same("word " + i, wide.memory(4 * i), plain.memory(4 * i));
        }
        // Within a token they part it.
        Check.fault("no p;", 1, 0);
        Check.fault("word 1 0;", 1, 7);
        Check.fault("word 0 x1;", 1, 7);
        Check.fault("add x 1,x1,x1;", 1, 4);
        // Without them a word and its first operand are one name.
        Check.fault("lix1,5;", 1, 0);
        Check.same("a sign parts as well", good("word-1;", 1).memory(0), -1);
    }

    private static void endsTooEarly() {
        String text = "a : lw x1 , - 4 ( x2 ) ;";
        int[] ends = {3, 6, 9, 11, 13, 15, 17, 20, 22};
        for (int end : ends) {
            Check.fault(text.substring(0, end), 1, end);
            Check.fault(text.substring(0, end) + "   ", 1, end + 3);
        }
        good(text, 1);
        Check.fault("org", 1, 3);
        Check.fault("org 4", 1, 5);
        Check.fault("core", 1, 4);
        Check.fault("core 4", 1, 6);
        Check.fault("j", 1, 1);
        Check.fault("j a", 1, 3);
        Check.fault("word -", 1, 6);
        Check.fault("amoadd x1,x2,(", 1, 14);
        Check.fault("amoadd x1,x2,(x3", 1, 16);
        Check.fault("amoadd x1,x2,(x3)", 1, 17);
    }

    private static void namesWithoutColon() {
        Check.fault("foo;", 1, 0);
        Check.fault("foo foo;", 1, 0);
        Check.fault("foo,", 1, 0);
        Check.fault("foo 7", 1, 0);
        Check.fault("foo-", 1, 0);
        Check.fault("a:foo;", 1, 2);
        Check.fault("x1;", 1, 0);
        Check.fault("x1 x2:;", 1, 0);
        Check.fault("nops;", 1, 0);
        Check.fault("no;", 1, 0);
        Check.fault("amoswap.w x1,x2,(x3);", 1, 7);
        Check.fault("lr x1,(x2);", 1, 0);
        Check.fault("mul x1,x2,x3;", 1, 0);
        Check.fault("subi x1,x2,3;", 1, 0);
        Check.fault("la x1,a;", 1, 0);
        Check.fault("foo $;", 1, 4);
        Check.fault("foo$;", 1, 3);
        Check.fault("foo   abcdefghi;", 1, 6);
        Check.fault("foo 12345678901;", 1, 4);
        Check.fault("foo 0x;", 1, 4);
        Check.fault("nop $;", 1, 4);
        Check.fault("add $;", 1, 4);
    }

    private static void anyNameIsALabel() {
        String[] names = {"add", "li", "word", "org", "core", "x0", "x31", "x32", "foo", "nop", "ret", "a"};
        for (String name : names) {
            Check.same(name + " as a label", good("nop;" + name + ":word " + name + ";", 2).memory(4), 4);
            Check.fault("word " + name + ";", 2, 5);
        }
        good("add:add x1,x2,x3;", 1);
        good("x1:li x1,x1;", 2);
    }

    private static void lowNumbers() {
        for (String ahead : LOW) {
            String behind = ahead.startsWith("lb") || ahead.startsWith("lh") || ahead.startsWith("lw") || ahead.startsWith("sb")
                || ahead.startsWith("sh") || ahead.startsWith("sw") || ahead.startsWith("jalr") ? "(x3)" : "";
            fits(ahead, behind, -2048, -2047, -1, 0, 1, 2046, 2047);
            fitsNot(ahead, behind, -2147483648L, -2050, -2049, 2048, 2049, 4095, 4096, 4294967295L, 9999999999L, -9999999999L);
        }
    }

    private static void shiftNumbers() {
        for (String ahead : SHIFTS) {
            fits(ahead, "", 0, 1, 30, 31);
            fitsNot(ahead, "", -1, -2048, 32, 33, 63, 1024, 4294967296L);
        }
        Check.same("slli 31", good("slli x1,x2,31;", 1).memory(0), 0x01f11093);
        Check.same("srai 0", good("srai x1,x2,0;", 1).memory(0), 0x40015093);
    }

    private static void upperNumbers() {
        for (String ahead : new String[] {"lui x1,", "auipc x1,"}) {
            fits(ahead, "", 0, 1, 1048574, 1048575);
            fitsNot(ahead, "", -1, -1048576, 1048576, 1048577, 4294967295L, 4294967296L);
        }
        Check.same("lui", good("lui x0,1048575;", 1).memory(0), 0xfffff037);
        Check.same("auipc", good("auipc x31,0;", 1).memory(0), 0xf97);
    }

    private static void branchNumbers() {
        for (String ahead : BRANCHES) {
            fits(ahead, "", -4096, -4094, -2, 0, 2, 4092, 4094);
            fitsNot(ahead, "", -4098, -4097, -4095, -1, 1, 3, 4093, 4095, 4096, 8192, 4294967296L);
        }
        Check.same("4094", good("beq x0,x0,4094;", 1).memory(0), 0x7e000fe3);
        Check.same("-4096", good("beq x0,x0,-4096;", 1).memory(0), 0x80000063);
        Check.same("-2", good("beq x0,x0,-2;", 1).memory(0), 0xfe000fe3);
        Check.same("2048", good("beq x0,x0,2048;", 1).memory(0), 0x000000e3);
    }

    private static void jumpNumbers() {
        for (String ahead : new String[] {"jal x1,", "j "}) {
            fits(ahead, "", -1048576, -1048574, -2, 0, 2, 1048572, 1048574);
            fitsNot(ahead, "", -1048578, -1048577, -1048575, -1, 1, 1048573, 1048575, 1048576, 4294967296L);
        }
        Check.same("1048574", good("j 1048574;", 1).memory(0), 0x7ffff06f);
        Check.same("-1048576", good("j -1048576;", 1).memory(0), 0x8000006f);
        Check.same("2048", good("j 2048;", 1).memory(0), 0x0010006f);
        Check.same("4096", good("j 4096;", 1).memory(0), 0x0000106f);
        Check.same("-2", good("j -2;", 1).memory(0), 0xfffff06f);
    }

    private static void wordNumbers() {
        for (String ahead : new String[] {"word ", "li x1,"}) {
            fits(ahead, "", -2147483648L, -2147483647L, -1, 0, 1, 2147483647L, 2147483648L, 4294967294L, 4294967295L);
            fitsNot(ahead, "", -2147483650L, -2147483649L, -4294967296L, -9999999999L, 4294967296L, 4294967297L, 9999999999L);
        }
        Check.same("least", good("word -2147483648;", 1).memory(0), Integer.MIN_VALUE);
        Check.same("most", good("word 4294967295;", 1).memory(0), -1);
        Check.same("2147483648", good("word 2147483648;", 1).memory(0), Integer.MIN_VALUE);
        Check.same("2147483647", good("word 2147483647;", 1).memory(0), Integer.MAX_VALUE);
    }

    private static void orgNumbers() {
        fits("org ", "", 0, 4, 8, 4096, 8184, 8188);
        fitsNot("org ", "", 1, 2, 3, 5, 8185, 8187, 8189, 8190, 8191, 8192, 8196, 16384, 4294967296L, 9999999999L);
        Check.same("8188", good("org 8188;word 3;", 1).memory(8188), 3);
        Check.same("back to 0", good("org 8188;org 0;word 3;", 1).memory(0), 3);
        Check.fault("org -4;", 1, 4);
        Check.fault("org -0;", 1, 4);
        Check.fault("a:org a;", 1, 6);
        Check.fault("org;", 1, 3);
    }

    private static void coreNumbers() {
        fits("core ", "", 0, 1, 14, 15);
        fitsNot("core ", "", 16, 17, 4294967296L, 4294967311L, 9999999999L);
        Check.fault("core -1;", 1, 5);
        Check.fault("core -0;", 1, 5);
        Check.fault("a:core a;", 1, 7);
        Check.fault("core;", 1, 4);
    }

    private static void labelsAsNumbers() {
        good("org 2044;a:addi x1,x2,a;", 1);
        Check.fault("org 2048;a:addi x1,x2,a;", 3, 22);
        good("org 2044;a:sw x1,a(x2);lw x1,a(x2);jalr x1,a(x2);", 3);
        Check.fault("org 2048;a:sw x1,a(x2);", 3, 17);
        good("org 28;a:slli x1,x1,a;", 1);
        Check.fault("org 32;a:slli x1,x1,a;", 3, 20);
        Check.same("lui of 8192", good("org 8188;lui x1,a;a:;", 1).memory(8188), 0x020000b7);
        // From 4 on: a branch to 4096 is one of 4092, to 4100 one of 4096.
        good("nop;beq x0,x0,a;org 4096;a:;", 2);
        Check.fault("nop;beq x0,x0,a;org 4100;a:;", 3, 14);
        good("a:org 4096;beqz x0,a;", 1);
        Check.fault("a:org 4100;beqz x0,a;", 3, 19);
        good("a:org 8188;j a;", 1);
        good("j a;org 8188;nop;a:;", 2);
        Check.same("j from 0 to 8192", good("j a;org 8188;nop;a:;", 2).memory(0), 0x0000206f);
        Check.same("to itself", good("a:j a;", 1).memory(0), 0x6f);
        // A label with a minus is none of the forms.
        Check.fault("a:word -a;", 1, 8);
    }

    /** Where labels are that stand behind what has no room, told by branches that reach them or not. */
    private static void labelsBehindTheEnd() {
        // 4092 from 4100 to 8192 fits, 4096 to 8196 does not.
        Check.fault("org 4100;beqz x0,a;org 8188;nop;nop;a:;", 3, 17);
        Check.fault("org 4104;beqz x0,a;org 8188;nop;nop;a:;", 3, 32);
        Check.fault("org 4104;beqz x0,a;org 8188;nop;li x1,9;word 1;a:;", 3, 17);
        Check.fault("org 4108;beqz x0,a;org 8188;nop;li x1,9;word 1;a:;", 3, 32);
        Check.fault("org 4104;beqz x0,a;org 8188;li x1,9999;a:;", 3, 28);
        Check.fault("org 4100;beqz x0,a;org 8188;li x1,9999;a:;", 3, 17);
        good("org 4100;beqz x0,a;org 8188;nop;a:;", 2);
        // Behind an org that does not fit the next address is 8192, whatever it told.
        Check.fault("org 4100;beqz x0,a;org 2;a:;", 3, 23);
        Check.fault("org 4096;beqz x0,a;org 2;a:;", 3, 17);
        Check.fault("org 4100;beqz x0,a;org 2;nop;a:;", 3, 17);
        Check.fault("org 4100;beqz x0,a;org 8192;a:;", 3, 23);
        Check.fault("org 4096;beqz x0,a;org 9999;a:;", 3, 17);
        Check.fault("org 4100;beqz x0,a;org 2;org 0;a:;", 3, 17);
        Check.fault("org 2;org 0;nop;", 3, 4);
    }

    private static void loadNumbers() {
        long[] one = {-2048, -2047, -1, 0, 1, 2046, 2047};
        for (long n : one) {
            Check.same("li " + n, good("li x5,0x0;li x5," + n + ";", 2).memory(4), (int) n << 20 | 0x293);
        }
        long[] two = {-2147483648L, -4097, -4096, -4095, -2050, -2049, 2048, 2049, 4094, 4095, 4096, 4097, 6143, 6144, 2147483647L,
            2147483648L, 4294965247L, 4294965248L, 4294967294L, 4294967295L};
        for (long n : two) {
            CoreHouse house = good("li x5," + n + ";", 2);
            int low = (int) n << 20 >> 20;
            Check.same("lui of " + n, house.memory(0), (int) n - low | 0x2b7);
            Check.same("addi of " + n, house.memory(4), low << 20 | 0x28293);
            Check.same("both of " + n, (house.memory(0) & 0xfffff000) + (house.memory(4) >> 20), (int) n);
        }
        // With a label it is always two.
        Check.same("a label of 0", good("a:li x5,a;", 2).memory(0), 0x2b7);
        Check.same("a label of 2044", good("org 2044;a:li x5,a;", 2).memory(2048), 0x7fc28293);
        CoreHouse upper = good("li x5,a;org 2048;a:;", 2);
        Check.same("a label of 2048", upper.memory(0), 0x12b7);
        Check.same("a label of 2048", upper.memory(4), 0x80028293);
        // An hexadecimal number is its value, not its bits with a sign.
        good("li x5,0x7ff;", 1);
        good("li x5,0x800;", 2);
        good("li x5,0xffffffff;", 2);
    }

    private static void beyondTheEnd() {
        good("org 8188;nop;", 1);
        good("org 8184;nop;nop;", 2);
        good("org 8184;li x1,5000;", 2);
        good("org 8188;li x1,5;", 1);
        good("org 8188;word 1;", 1);
        good("org 8188;nop;;a:;core 1;", 1);
        Check.fault("org 8188;nop;nop;", 3, 13);
        Check.fault("org 8188;nop;a: b: word 1;", 3, 19);
        Check.fault("org 8188;li x1,5000;", 3, 9);
        Check.fault("org 8184;nop;li x1,a;a:;", 3, 13);
        Check.fault("org 8188;nop;nop;nop;nop;", 3, 13);
        Check.fault("org 8188;nop;fence;", 3, 13);
        // Its name stands ahead of a number that does not fit either.
        Check.fault("org 8188;nop;slli x1,x1,32;", 3, 13);
        Check.fault("org 8188;slli x1,x1,32;nop;", 3, 20);
    }

    private static void labelFaults() {
        Check.fault("a:a:;", 2, 2);
        Check.fault("a:nop;a:a:;", 2, 6);
        Check.fault("a:b:;b:a:;", 2, 5);
        Check.fault("j a;", 2, 2);
        Check.fault("j a;j b;a:;", 2, 6);
        good("j a;a:;", 1);
        good("a:;j a;", 1);
        Check.fault("beq x1,x2,ab;a:b:abc:;", 2, 10);
        // A label told twice is no label that is none: its first place counts where it is used.
        Check.fault("j a;a:;a:;", 2, 7);
        Check.fault("beqz x0,a;a:;org 8188;a:;", 2, 22);
    }

    private static void leastPlace() {
        Check.fault("j b;slli x1,x1,32;a:a:;", 2, 2);
        Check.fault("slli x1,x1,32;j b;a:a:;", 3, 11);
        Check.fault("a:a:;j b;slli x1,x1,32;", 2, 2);
        Check.fault("org 8188;nop;nop;j b;", 3, 13);
        Check.fault("j b;org 8188;nop;nop;", 2, 2);
        Check.fault("addi x1,x0,4096;org 1;core 16;", 3, 11);
        Check.fault("core 16;org 1;", 3, 5);
        // One that can't stand is told ahead of all of these, wherever it is.
        Check.fault("a:a:;j b;slli x1,x1,32;org 1;core 16;nop", 1, 40);
        Check.fault("a:a:;j b;slli x1,x1,32;org 1;$", 1, 29);
        Check.fault("$a:a:;", 1, 0);
    }

    private static void toldTwice() {
        CoreHouse house = good("word 1;word 2;org 0;word 3;org 0;word 4;", 4);
        Check.same("the later one stands", house.memory(0), 4);
        Check.same("the other", house.memory(4), 2);
        Check.same("none behind", house.memory(8), 0);
        CoreHouse split = good("li x1,5000;org 4;word 9;", 3);
        Check.same("half of li", split.memory(0), 0x10b7);
        Check.same("the later one", split.memory(4), 9);
        Check.same("anew", house.assemble(), 0);
        Check.same("MEMORY has 0", house.memory(0), 0);
        Check.same("MEMORY has 0", house.memory(4), 0);
    }

    private static void coresBegin() {
        CoreHouse house = Check.house("core 15;org 8188;core 0;nop;core 1;org 100;core 2;core 3;org 200;core 3;core 14;",
            15, 1, 1, 1, 2, 8);
        int[] due = {8188, 0, 100, 200, 0, 0, 0, 0, 0, 0, 0, 0, 0, 0, 200};
        for (int c = 0; c < due.length; c++) {
            Check.same("place of core " + c, house.core(c, 32), due[c]);
        }
        Check.same("all sixteen", house.sizes(16, 1, 1, 1, 2, 8) ? 1 : 0, 1);
        StringBuilder text = new StringBuilder();
        for (int c = 0; c < 16; c++) {
            text.append("core ").append(15 - c).append(";nop;");
        }
        Check.same("words", Check.assemble(house, text.toString()), 16);
        for (int c = 0; c < 16; c++) {
            Check.same("place of core " + c, house.core(c, 32), 4 * (15 - c));
        }
        Check.same("words", Check.assemble(house, "nop;"), 1);
        for (int c = 0; c < 16; c++) {
            Check.same("0 otherwise", house.core(c, 32), 0);
        }
    }

    private static void faultOfTheLatest() {
        CoreHouse house = new CoreHouse();
        int[] wrong = {-1, 2, 3, Integer.MIN_VALUE, Integer.MAX_VALUE};
        for (int what : wrong) {
            Check.same("fault(" + what + ")", house.fault(what), CoreHouse.NONE);
        }
        Check.type(house, "nop;nop;slli x1,x1,32;");
        Check.fails("assemble", IllegalArgumentException.class, house::assemble);
        Check.same("kind", house.fault(0), 3);
        Check.same("place", house.fault(1), 19);
        for (int what : wrong) {
            Check.same("fault(" + what + ")", house.fault(what), CoreHouse.NONE);
        }
        house.run(1);
        house.step(0);
        house.type(0x20, 1);
        Check.same("others leave it", house.fault(0) * 100 + house.fault(1), 319);
        Check.same("play has none", house.play(), 0);
        Check.same("kind", house.fault(0), 0);
        Check.same("place", house.fault(1), 0);
        Check.type(house, "s0 q");
        Check.fails("play", IllegalArgumentException.class, house::play);
        Check.same("kind", house.fault(0), 4);
        Check.same("place", house.fault(1), 3);
        Check.same("assemble has none", house.assemble(), 0);
        Check.same("kind", house.fault(0), 0);
        Check.same("place", house.fault(1), 0);
    }

    private static void faultLeavesAll() {
        CoreHouse house = Check.house("li x1,9;a:sw x1,64(x0);amoadd x2,x1,(x0);lw x3,128(x0);j a;", 3, 2, 2, 2, 4, 4);
        Check.play(house, "s0s1s2m00m00m00m00s0s1s2d0m01s0d1");
        Check.yes("something is on its way", house.total(1) > 0);
        String[] texts = {"word 7;$", "word 7;j b;", "word 7;slli x1,x1,32;", "word 7;a:a:;", "org 8188;core 1;nop;nop;", "nop"};
        for (String text : texts) {
            Check.type(house, text);
            State.stays("assemble of '" + text + "'", house, house::assemble);
            Check.yes("a fault", house.fault(0) > 0);
        }
    }

    /** A tape ends at its length, whatever was behind that before; labels and starts of an earlier text are gone. */
    private static void nothingIsLeftOfAnEarlierTape() {
        String[] earlier = {"word 0x123;", "word 012345;", "word 0abcde:", "word 0;nop;nop;", "          x"};
        String[] texts = {"word 0", "word 01", "nop;ab", "word", "word 0x", "word -", "a:"};
        int[] places = {6, 7, 4, 4, 5, 6, 2};
        for (String one : earlier) {
            for (int i = 0; i < texts.length; i++) {
                CoreHouse house = new CoreHouse();
                Check.type(house, one);
                try {
                    house.assemble();
                } catch (IllegalArgumentException e) {
                    // Some of the earlier ones have faults, too.
                }
                Check.type(house, texts[i]);
                Check.fails("'" + texts[i] + "' behind '" + one + "'", IllegalArgumentException.class, house::assemble);
                Check.same("place in '" + texts[i] + "' behind '" + one + "'", house.fault(1), places[i]);
            }
        }
        String[] ends = {"word 0", "word 0x", "word 0x1", "word 12", "ab", "nop", "word -", "a:"};
        int[] behind = {1500, 1498, 1500, 1500, 1498, 1500, 1500, 1500};
        for (int i = 0; i < ends.length; i++) {
            Check.fault(" ".repeat(1500 - ends[i].length()) + ends[i], 1, behind[i]);
        }
        CoreHouse house = good("a:b:;", 0);
        Check.same("the same label again", Check.assemble(house, "a:j a;"), 1);
        Check.type(house, "a:j b;");
        Check.fails("a label of an earlier text", IllegalArgumentException.class, house::assemble);
        Check.same("kind", house.fault(0), 2);
        Check.same("place", house.fault(1), 4);
    }

    private static int bits(int word, int high, int low) {
        return word >>> low & (1 << high - low + 1) - 1;
    }

    /** Numbers with one bit, or all but one: each bit of them has its place in the word. */
    private static void everyBitOfANumber() {
        for (int bit = 0; bit < 20; bit++) {
            for (int n : new int[] {1 << bit, -1 << bit, ~(1 << bit), -1 - (1 << bit)}) {
                if (n >= -2048 && n <= 2047) {
                    Check.same("addi " + n, good("addi x0,x0," + n + ";", 1).memory(0), n << 20 | 0x13);
                    Check.same("lw " + n, good("lw x0," + n + "(x0);", 1).memory(0), n << 20 | 0x2003);
                    Check.same("jalr " + n, good("jalr x0," + n + "(x0);", 1).memory(0), n << 20 | 0x67);
                    int sw = good("sw x0," + n + "(x0);", 1).memory(0);
                    Check.same("sw " + n, bits(sw, 31, 25) << 5 | bits(sw, 11, 7), n & 0xfff);
                    Check.same("sw " + n, sw & 0x1fff07f, 0x2023);
                }
                if (n >= -4096 && n <= 4094 && n % 2 == 0) {
                    int beq = good("beq x0,x0," + n + ";", 1).memory(0);
                    int got = bits(beq, 31, 31) << 12 | bits(beq, 7, 7) << 11 | bits(beq, 30, 25) << 5 | bits(beq, 11, 8) << 1;
                    Check.same("beq " + n, got, n & 0x1fff);
                    Check.same("beq " + n, beq & 0x1fff07f, 0x63);
                }
                if (n >= -1048576 && n <= 1048574 && n % 2 == 0) {
                    int jal = good("jal x0," + n + ";", 1).memory(0);
                    int got = bits(jal, 31, 31) << 20 | bits(jal, 19, 12) << 12 | bits(jal, 20, 20) << 11 | bits(jal, 30, 21) << 1;
                    Check.same("jal " + n, got, n & 0x1fffff);
                    Check.same("jal " + n, jal & 0xfff, 0x6f);
                }
                if (n >= 0) {
                    Check.same("lui " + n, good("lui x0," + n + ";", 1).memory(0), n << 12 | 0x37);
                }
                Check.same("word " + n, good("word " + n + ";", 1).memory(0), n);
            }
        }
    }

    /** As many of all as the tape has room for. */
    private static void manyStatements() {
        good(";".repeat(1500), 0);
        good("ret;".repeat(375), 375);
        good("nop;".repeat(374) + "j 0;", 375);
        StringBuilder labels = new StringBuilder();
        for (int i = 0; labels.length() < 1490; i++) {
            labels.append((char) ('a' + i / 260 % 26)).append((char) ('a' + i / 10 % 26)).append(i % 10).append(':');
        }
        good(labels + ";", 0);
        Check.fault(labels + "aa0:;", 2, labels.length());
        Check.fault("a:".repeat(749) + ";;", 2, 2);
        StringBuilder far = new StringBuilder("j z;");
        for (int i = 0; i < 373; i++) {
            far.append("ret;");
        }
        CoreHouse house = good(far + "z:;", 374);
        Check.same("j over all", house.memory(0), 0x5d80006f);
        Check.same("li twice", good("li x1,9999;".repeat(136), 272).memory(4 * 271), 0x70f08093);
    }
}

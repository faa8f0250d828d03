/** Promises 4 and 5: assemble, fault. */
public final class AssemblerTest {
    public static void main(String[] args) {
        instructions();
        shortForms();
        loadNumbers();
        tokens();
        addresses();
        cores();
        charactersThatCannotStand();
        tokensWithoutBlanks();
        labelFaults();
        numberFaults();
        whichFaultIsTold();
        beginsAnew();
        Check.end();
    }

    private static void encodes(String text, int... words) {
        CoreHouse house = new CoreHouse();
        Check.same("words of '" + text + "'", Check.assemble(house, text), words.length);
        for (int i = 0; i < words.length; i++) {
            Check.same("word " + i + " of '" + text + "'", house.memory(4 * i), words[i]);
        }
        Check.same("fault", house.fault(0), 0);
    }

    private static void instructions() {
        encodes("add x3,x1,x2;sub x3,x1,x2;sll x3,x1,x2;slt x3,x1,x2;sltu x3,x1,x2;",
            0x002081b3, 0x402081b3, 0x002091b3, 0x0020a1b3, 0x0020b1b3);
        encodes("xor x3,x1,x2;srl x3,x1,x2;sra x3,x1,x2;or x3,x1,x2;and x3,x1,x2;",
            0x0020c1b3, 0x0020d1b3, 0x4020d1b3, 0x0020e1b3, 0x0020f1b3);
        encodes("addi x1,x0,5;addi x31,x31,-1;slti x1,x2,-2048;sltiu x1,x2,2047;",
            0x00500093, 0xffff8f93, 0x80012093, 0x7ff13093);
        encodes("xori x1,x2,-1;ori x1,x2,1;andi x1,x2,0xff;slli x1,x2,31;srli x1,x2,3;srai x1,x2,3;",
            0xfff14093, 0x00116093, 0x0ff17093, 0x01f11093, 0x00315093, 0x40315093);
        encodes("lb x1,-1(x2);lh x1,2(x2);lw x6,8(x2);lbu x1,0(x2);lhu x1,0(x2);",
            0xfff10083, 0x00211083, 0x00812303, 0x00014083, 0x00015083);
        encodes("sb x6,-1(x2);sh x6,2(x2);sw x6,8(x2);sw x1,-2048(x2);sw x1,2047(x2);",
            0xfe610fa3, 0x00611123, 0x00612423, 0x80112023, 0x7e112fa3);
        encodes("beq x1,x2,8;bne x1,x2,-4;blt x1,x2,4094;bge x1,x2,-4096;bltu x1,x2,0;bgeu x1,x2,2;",
            0x00208463, 0xfe209ee3, 0x7e20cfe3, 0x8020d063, 0x0020e063, 0x0020f163);
        encodes("lui x5,0x12345;auipc x5,1048575;lui x1,0;", 0x123452b7, 0xfffff297, 0x000000b7);
        encodes("jal x1,8;jal x0,-4;jal x1,1048574;jal x1,-1048576;jalr x1,0(x5);jalr x0,-4(x1);",
            0x008000ef, 0xffdff06f, 0x7ffff0ef, 0x800000ef, 0x000280e7, 0xffc08067);
        encodes("amoswap x1,x2,(x3);amoadd x1,x2,(x3);amoxor x1,x2,(x3);amoand x1,x2,(x3);amoor x1,x2,(x3);",
            0x0821a0af, 0x0021a0af, 0x2021a0af, 0x6021a0af, 0x4021a0af);
        encodes("amomin x1,x2,(x3);amomax x1,x2,(x3);amominu x1,x2,(x3);amomaxu x1,x2,(x3);",
            0x8021a0af, 0xa021a0af, 0xc021a0af, 0xe021a0af);
        encodes("fence;ecall;ebreak;", 0x0ff0000f, 0x73, 0x100073);
    }

    private static void shortForms() {
        encodes("nop;mv x1,x2;not x1,x2;neg x1,x2;ret;", 0x13, 0x00010093, 0xfff14093, 0x402000b3, 0x00008067);
        encodes("j 8;j -4;beqz x1,8;bnez x1,-4;", 0x0080006f, 0xffdff06f, 0x00008463, 0xfe009ee3);
        encodes("word 0xffffffff;word -2147483648;word 4294967295;word -1;", -1, 0x80000000, -1, -1);
        encodes(" ; ;; ");
    }

    private static void loadNumbers() {
        encodes("li x5,2047;", 0x7ff00293);
        encodes("li x5,-2048;", 0x80000293);
        encodes("li x5,2048;", 0x000012b7, 0x80028293);
        encodes("li x5,-2049;", 0xfffff2b7, 0x7ff28293);
        encodes("li x5,0x12345678;", 0x123452b7, 0x67828293);
        encodes("li x5,0x12345fff;", 0x123462b7, 0xfff28293);
        encodes("li x5,4294967295;", 0x000002b7, 0xfff28293);
        encodes("li x5,-2147483648;", 0x800002b7, 0x00028293);
        encodes("li x5,4096;", 0x000012b7, 0x00028293);
        encodes("a: li x5,a;", 0x000002b7, 0x00028293);
        encodes("li x0,b; b: nop;", 0x00000037, 0x00800013, 0x13);
    }

    private static void tokens() {
        encodes("  add   x3 , x1,x2 ;  ", 0x002081b3);
        encodes("lw x6 , 8 ( x2 ) ;sw x6,-  8(x2);", 0x00812303, 0xfe612c23);
        encodes("addi x1,x0,0000000005;addi x1,x0,0x00000005;", 0x00500093, 0x00500093);
        encodes("word 0xabcdef09;word 0000000000;", 0xabcdef09, 0);
        encodes("abcdefgh:j abcdefgh;", 0x6f);
        encodes("add:x1:j add;j x1;core:j core;word:j word;org: j org;", 0x6f, 0xffdff06f, 0x6f, 0x6f, 0x6f);
        encodes("word:word word;", 0);
        encodes("nop;a1b2:c:j c;word a1b2;", 0x13, 0x6f, 4);
    }

    private static void addresses() {
        CoreHouse house = new CoreHouse();
        Check.same("words", Check.assemble(house, "org 100;a:word b;word a;org 8188;b:word e;e:org 0;word b;"
            + "org 100; word 7;"), 5);
        Check.same("later one stands", house.memory(100), 7);
        Check.same("a", house.memory(104), 100);
        Check.same("the end is 8192", house.memory(8188), 8192);
        Check.same("b", house.memory(0), 8188);
        Check.same("elsewhere", house.memory(4), 0);
        CoreHouse jumps = new CoreHouse();
        Check.assemble(jumps, "org 8;a:nop;beq x0,x0,a;bnez x1,b;j a;jal x1,b;b:jalr x0,b(x0);lw x1,a(x0);addi x1,x0,b;"
            + "lui x1,b;slli x1,x1,a;sw x1,a(x0);");
        int[] words = {0x13, 0xfe000ee3, 0x00009663, 0xff5ff06f, 0x004000ef, 0x01c00067, 0x00802083, 0x01c00093,
            0x0001c0b7, 0x00809093, 0x00102423};
        for (int i = 0; i < words.length; i++) {
            Check.same("word " + i, jumps.memory(8 + 4 * i), words[i]);
        }
    }

    private static void cores() {
        CoreHouse house = Check.house("core 1;nop;core 0;core 2;org 64;core 1;core 9;core 15;org 8188;nop;core 3;",
            4, 1, 1, 1, 4, 1);
        Check.same("core 0", house.core(0, 32), 4);
        Check.same("core 1, told twice", house.core(1, 32), 64);
        Check.same("core 2", house.core(2, 32), 4);
        Check.same("core 3 at 8192, which is 0", house.core(3, 32), 0);
        Check.assemble(house, "nop;core 2;");
        Check.same("not told any more", house.core(1, 32), 0);
        Check.same("told", house.core(2, 32), 4);
    }

    private static void charactersThatCannotStand() {
        Check.fault("foo;", 1, 0);
        Check.fault("foo", 1, 0);
        Check.fault("nop", 1, 3);
        Check.fault("nop  ", 1, 5);
        Check.fault("nop nop;", 1, 4);
        Check.fault("nop;foo x1;", 1, 4);
        Check.fault("foo #;", 1, 4);
        Check.fault("foo abcdefghi;", 1, 4);
        Check.fault("foo 12;", 1, 0);
        Check.fault("nop #;", 1, 4);
        Check.fault("#;", 1, 0);
        Check.fault("A:nop;", 1, 0);
        Check.fault("nop;aB:nop;", 1, 5);
        Check.fault("abcdefghi:nop;", 1, 0);
        Check.fault("12;", 1, 0);
        Check.fault(":nop;", 1, 0);
        Check.fault("a:", 1, 2);
        Check.fault("a: ", 1, 3);
        Check.fault("a::nop;", 1, 2);
        Check.fault("a: 5;", 1, 3);
        Check.fault("1a:nop;", 1, 0);
        Check.fault("add x1,x2;", 1, 9);
        Check.fault("add x1 x2,x3;", 1, 7);
        Check.fault("add x1,x2,x3", 1, 12);
        Check.fault("add x1,x2,x32;", 1, 10);
        Check.fault("add x1,x2,x01;", 1, 10);
        Check.fault("add x1,x2,y1;", 1, 10);
        Check.fault("add x1,x2,x;", 1, 10);
        Check.fault("add x1,x2,x100;", 1, 10);
        Check.fault("add x1,x2,5;", 1, 10);
        Check.fault("add 5,x1,x2;", 1, 4);
        Check.fault("addi x1,x2,(5);", 1, 11);
        Check.fault("addi x1,x2,- x1;", 1, 13);
        Check.fault("addi x1,x2,--1;", 1, 12);
        Check.fault("addi x1,x2,-;", 1, 12);
        Check.fault("addi x1,x2,-", 1, 12);
        Check.fault("addi x1,x2,", 1, 11);
        Check.fault("lw x1,0 x2;", 1, 8);
        Check.fault("lw x1,(x2);", 1, 6);
        Check.fault("lw x1,0(5);", 1, 8);
        Check.fault("lw x1,0(x2;", 1, 10);
        Check.fault("amoadd x1,x2,0(x3);", 1, 13);
        Check.fault("amoadd x1,x2,x3;", 1, 13);
        Check.fault("word 12345678901;", 1, 5);
        Check.fault("word 0x;", 1, 5);
        Check.fault("word 0x123456789;", 1, 5);
        Check.fault("word 0xg;", 1, 5);
        Check.fault("word 0xA;", 1, 5);
        Check.fault("word 1 2;", 1, 7);
        Check.fault("word;", 1, 4);
        Check.fault("org -4;", 1, 4);
        Check.fault("org a;a:nop;", 1, 4);
        Check.fault("core a;", 1, 5);
        Check.fault("core -1;", 1, 5);
        Check.fault("fence x1;", 1, 6);
        Check.fault("ret x1;", 1, 4);
        Check.fault("j;", 1, 1);
        Check.fault("amoadd.w x1,x2,(x3);", 1, 6);
    }

    /** A blank need not part a NUMBER from the NAME behind it. */
    private static void tokensWithoutBlanks() {
        Check.fault("li x1,12a;", 1, 8);
        Check.fault("li x1,12 a;", 1, 9);
        Check.fault("li x1,-12a;", 1, 9);
        Check.fault("li x1,12a", 1, 8);
        Check.fault("li x1,12abcdefghi;", 1, 8);
        Check.fault("li x1,1234567890a;", 1, 16);
        Check.fault("li x1,12345678901a;", 1, 6);
        Check.fault("word 12x;", 1, 7);
        Check.fault("word 00x1;", 1, 7);
        Check.fault("word 0a;", 1, 6);
        Check.fault("word 0x12g;", 1, 9);
        Check.fault("word 0xabcdefg;", 1, 13);
        Check.fault("word 0x12345678g;", 1, 15);
        Check.fault("word 0x123456789g;", 1, 5);
        Check.fault("word 0x1x2;", 1, 8);
        Check.fault("lw x1,4x2;", 1, 7);
        Check.fault("org 4nop;", 1, 5);
        Check.fault("core 1a;", 1, 6);
        Check.fault("12a;", 1, 0);
        Check.fault("a:12b:nop;", 1, 2);
        Check.fault("nop 12a;", 1, 4);
        Check.fault("foo 12a;", 1, 0);
        Check.fault("foo 12345678901;", 1, 4);
        Check.fault("foo 0x;", 1, 4);
        Check.fault("word 12#;", 1, 7);
        Check.fault("add x1x2,x3;", 1, 4);
        encodes("word-1;addi x1,x0,-  1;", -1, 0xfff00093);
    }

    private static void labelFaults() {
        Check.fault("j a;", 2, 2);
        Check.fault("word x1;", 2, 5);
        Check.fault("li x1,nope;", 2, 6);
        Check.fault("a:nop;a:nop;", 2, 6);
        Check.fault("a:b:a:nop;a:;", 2, 4);
        Check.fault("nop;j aa;aaa:nop;", 2, 6);
        Check.fault("a:;lw x1,b(x2);", 2, 9);
    }

    private static void numberFaults() {
        Check.fault("word 4294967296;", 3, 5);
        Check.fault("word -2147483649;", 3, 5);
        Check.fault("li x1,4294967296;", 3, 6);
        Check.fault("li x1, - 2147483649;", 3, 7);
        Check.fault("lui x1,1048576;", 3, 7);
        Check.fault("lui x1,-1;", 3, 7);
        Check.fault("auipc x1,1048576;", 3, 9);
        Check.fault("slli x1,x1,32;", 3, 11);
        Check.fault("srli x1,x1,-1;", 3, 11);
        Check.fault("srai x1,x1,32;", 3, 11);
        Check.fault("beq x1,x1,4096;", 3, 10);
        Check.fault("beq x1,x1,-4098;", 3, 10);
        Check.fault("beq x1,x1,3;", 3, 10);
        Check.fault("beqz x1,4095;", 3, 8);
        Check.fault("jal x1,1048576;", 3, 7);
        Check.fault("j -1048578;", 3, 2);
        Check.fault("j 1;", 3, 2);
        Check.fault("addi x1,x1,2048;", 3, 11);
        Check.fault("addi x1,x1,-2049;", 3, 11);
        Check.fault("lw x1,2048(x1);", 3, 6);
        Check.fault("sw x1,-2049(x1);", 3, 6);
        Check.fault("jalr x1,2048(x1);", 3, 8);
        Check.fault("org 8192;", 3, 4);
        Check.fault("org 2;", 3, 4);
        Check.fault("core 16;", 3, 5);
        Check.fault("core 9999999999;", 3, 5);
        Check.fault("org 8188;nop;nop;", 3, 13);
        Check.fault("org 8188;li x1,5000;", 3, 9);
        Check.fault("org 8188;nop;word 1;", 3, 13);
        Check.fault("org 4096;a:nop;addi x1,x0,a;", 3, 26);
        Check.fault("beq x0,x0,a;org 4096;a:nop;", 3, 10);
        Check.fault("org 8188;nop;org 0;nop;li x1,-9999999999;", 3, 29);
    }

    private static void whichFaultIsTold() {
        Check.fault("j a;org 2;foo;", 1, 10);
        Check.fault("org 2;j a;", 3, 4);
        Check.fault("j a;org 2;", 2, 2);
        Check.fault("org 2;nop;", 3, 4);
        // Behind an org that does not fit the next address is 8192, so what comes earlier may be too far.
        Check.fault("beq x0,x0,a;org 2;a:;", 3, 10);
        Check.fault("addi x1,x0,a;org 8188;nop;nop;a:;", 3, 11);
        Check.fault("word a;org 8188;nop;nop;a:;", 3, 20);
        CoreHouse house = new CoreHouse();
        Check.type(house, "a:foo;");
        Check.fails("assemble", IllegalArgumentException.class, house::assemble);
        Check.same("kind", house.fault(0), 1);
        Check.same("what 2", house.fault(2), CoreHouse.NONE);
        Check.same("what -1", house.fault(-1), CoreHouse.NONE);
        Check.same("tape is empty", house.assemble(), 0);
        Check.same("no fault any more", house.fault(0), 0);
        Check.same("no place any more", house.fault(1), 0);
        Check.type(house, "s0x");
        Check.fails("play", IllegalArgumentException.class, house::play);
        Check.same("of play", house.fault(0), 4);
        Check.same("of play", house.fault(1), 2);
        house.play();
        Check.same("of play", house.fault(0), 0);
        Check.same("of play", house.fault(1), 0);
    }

    private static void beginsAnew() {
        CoreHouse house = Check.house("li x1,400;li x2,7;sw x2,0(x1);sw x2,4(x1);amoadd x3,x2,(x1);ecall;",
            2, 4, 1, 2, 4, 1);
        house.run(30);
        Check.play(house, "s0d1");
        Check.yes("something was done", house.total(2) > 5 && house.total(12) == 2);
        Check.type(house, "foo");
        Check.fails("assemble", IllegalArgumentException.class, house::assemble);
        Check.same("all stays", house.core(0, 2), 7);
        Check.same("all stays", house.total(12), 2);
        house.step(1);
        Check.same("assemble", Check.assemble(house, "org 4;word 5;"), 1);
        for (int core = 0; core < 2; core++) {
            for (int what = 0; what <= 40; what++) {
                int due = what == 36 || what == 37 ? CoreHouse.NONE : 0;
                Check.same("core " + core + ", " + what, house.core(core, what), due);
            }
            int c = core;
            Check.fails("trace", java.util.NoSuchElementException.class, () -> house.trace(c, 0, 0));
            Check.fails("store", java.util.NoSuchElementException.class, () -> house.core(c, 100));
        }
        for (int line = 0; line < 512; line++) {
            Check.same("cached", house.cached(0, line) + house.cached(1, line), 0);
        }
        int[] totals = {2, 0, 0, 0, 0, 0, 0, 4, 1, 2, 4, 1, 0, 0};
        for (int what = 0; what < totals.length; what++) {
            Check.same("total " + what, house.total(what), totals[what]);
        }
        for (int address = 0; address < 8192; address += 4) {
            Check.same("memory", house.memory(address), address == 4 ? 5 : 0);
            Check.same("word", house.word(address), address == 4 ? 5 : 0);
        }
    }
}

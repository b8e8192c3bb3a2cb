/** The codes that need no glyph, by what prep leaves in STORAGE; and the failures with their order. */
public final class CodesTest {
    public static void main(String[] args) {
        reckoning();
        comparing();
        rounding();
        stacking();
        vectors();
        branches();
        jumps();
        functions();
        ownCodes();
        memory();
        pushes();
        failures();
        steps();
        Check.done();
    }

    private static FontKit kit(Object... prep) {
        return Prep.kit(prep);
    }

    private static int[] p(int... values) {
        return values;
    }

    private static void gives(String what, long due, Object... codes) {
        Prep.gives(what, due, codes);
    }

    private static void fails(String what, int failure, int place, Object... codes) {
        Prep.fails(what, failure, place, codes);
    }

    private static void reckoning() {
        gives("5 + 7", 12, p(5, 7), 96);
        gives("5 - 7", -2, p(5, 7), 97);
        gives("100 by 3", 2133, p(100, 3), 98);
        gives("-100 by 3", -2133, p(-100, 3), 98);
        gives("100 by -3", -2133, p(100, -3), 98);
        gives("5 times 32", 3, p(5, 32), 99);
        gives("-5 times 32", -3, p(-5, 32), 99);
        gives("5 times 31", 2, p(5, 31), 99);
        gives("size", 9, p(-9), 100);
        gives("minus", -9, p(9), 101);
        gives("down", 64, p(127), 102);
        gives("down below 0", -64, p(-1), 102);
        gives("up", 128, p(65), 103);
        gives("up below 0", 0, p(-63), 103);
        gives("up of a multiple", -64, p(-64), 103);
        gives("the greater", 7, p(-5, 7), 139);
        gives("the lesser", -5, p(-5, 7), 140);
        for (int code = 108; code < 112; code++) {
            gives("nothing by " + code, 37, p(37), code);
        }
        gives("info of 1", 35, p(1), 136);
        gives("info of 2", 0, p(2), 136);
        gives("info of 7", 35, p(7), 136);
        gives("ppem", 10, 75);
        gives("ppem by 76", 10, 76);
        gives("a wrapped sum", -2147483648L, wrapped());
        gives("a wrapped size", -2147483648L, wrapped(), 100);
        gives("a wrapped difference", 2147483647, wrapped(), p(1), 97);
    }

    /** 2 to the 31: 16384 times 64, doubled eleven times. */
    private static byte[] wrapped() {
        return FontKit.prog(p(16384, 1), 98, 32, 96, 32, 96, 32, 96, 32, 96, 32, 96, 32, 96, 32, 96, 32, 96, 32, 96,
            32, 96, 32, 96);
    }

    private static void comparing() {
        int[][] due = {{1, 1, 0, 0, 0, 1}, {0, 1, 0, 1, 1, 0}, {0, 0, 1, 1, 0, 1}};
        for (int k = 0; k < 3; k++) {
            for (int code = 80; code < 86; code++) {
                gives((k - 1) + " and 0 by " + code, due[k][code - 80], p(k - 1, 0), code);
            }
        }
        gives("odd 64", 1, p(64), 86);
        gives("odd 95", 1, p(95), 86);
        gives("odd 96", 0, p(96), 86);
        gives("odd -64", 1, p(-64), 86);
        gives("even 96", 1, p(96), 87);
        gives("even 64", 0, p(64), 87);
        gives("even -128", 1, p(-128), 87);
        gives("even, rounded by halves", 0, 25, p(0), 87);
        gives("and", 1, p(2, -4), 90);
        gives("and with 0", 0, p(2, 0), 90);
        gives("or", 1, p(0, 8), 91);
        gives("or of 0s", 0, p(0, 0), 91);
        gives("not 0", 1, p(0), 92);
        gives("not 5", 0, p(5), 92);
    }

    private static void rounded(int v, int due, Object... by) {
        gives("rounded " + v, due, FontKit.prog(by), p(v), 104);
    }

    private static void rounding() {
        int[][] grid = {{0, 0}, {31, 0}, {32, 64}, {-31, 0}, {-32, -64}, {96, 128}, {95, 64}};
        for (int[] pair : grid) {
            rounded(pair[0], pair[1]);
            rounded(pair[0], pair[1], 61, 24);
            rounded(pair[0], pair[1], p(0x48), 118);
        }
        int[][] half = {{0, 32}, {63, 32}, {64, 96}, {-1, -32}, {-64, -96}};
        for (int[] pair : half) {
            rounded(pair[0], pair[1], 25);
            rounded(pair[0], pair[1], p(0x68), 118);
        }
        int[][] fine = {{15, 0}, {16, 32}, {-16, -32}, {47, 32}, {48, 64}};
        for (int[] pair : fine) {
            rounded(pair[0], pair[1], 61);
        }
        int[][] down = {{63, 0}, {64, 64}, {-63, 0}, {-64, -64}};
        for (int[] pair : down) {
            rounded(pair[0], pair[1], 125);
        }
        int[][] up = {{1, 64}, {0, 0}, {-1, -64}, {64, 64}, {65, 128}};
        for (int[] pair : up) {
            rounded(pair[0], pair[1], 124);
        }
        rounded(37, 37, 122);
        rounded(-37, -37, 122);
        for (int code = 105; code < 108; code++) {
            gives("rounded by " + code, 64, p(40), code);
        }
        // 64, 16, -24: from 0 on a phase at least.
        rounded(0, 16, p(0x51), 118);
        rounded(103, 16, p(0x51), 118);
        rounded(104, 80, p(0x51), 118);
        rounded(-104, -80, p(0x51), 118);
        // 32, 24, 31 and 128, 0, 127 and 128, 96, 176
        rounded(26, 56, p(0x30), 118);
        rounded(24, 24, p(0x30), 118);
        rounded(1, 128, p(0x80), 118);
        rounded(48, 224, p(0xbf), 118);
        rounded(47, 96, p(0xbf), 118);
        // 22: phases 5, 11, 16; 45: 11, 22, 33; 90: 22, 45, 67
        rounded(0, 5, p(0x14), 119);
        rounded(0, 11, p(0x24), 119);
        rounded(0, 16, p(0x34), 119);
        rounded(0, 33, p(0x74), 119);
        rounded(0, 67, p(0xb4), 119);
        rounded(1, 45, p(0x40), 119);
        rounded(45, 45, p(0x40), 119);
        rounded(46, 90, p(0x40), 119);
        // 45, 0, (3 - 4) 45 / 8 = -5
        rounded(49, 0, p(0x43), 119);
        rounded(50, 45, p(0x43), 119);
        rounded(0, 0, p(256 + 0x48), 118);
        fails("118 of 192", 11, 4, p(192), 118);
        fails("119 of 255", 11, 4, p(255), 119);
    }

    private static void stacking() {
        gives("twice", 14, p(3, 7), 32, 96);
        gives("taken away", 3, p(3, 7), 33);
        gives("changed", 4, p(3, 7), 35, 97);
        gives("cleared", 0, p(3, 7), 34, 36);
        gives("how many", 2, p(3, 7), 36);
        gives("the first below", 8, p(9, 8, 1), 37);
        gives("the second below", 9, p(9, 8, 2), 37);
        gives("the second below stays", 3, p(9, 8, 2), 37, 36);
        gives("the second below goes", 2, p(9, 8, 2), 38, 36);
        gives("the third goes on top", 9, p(9, 8, 7, 3), 38);
        gives("the third goes from below", 1, p(9, 8, 7, 3), 38, 33, 97);
        gives("rolled", 1, p(1, 2, 3), 138);
        gives("rolled, below", 3, p(1, 2, 3), 138, 33);
        gives("rolled, lowest", 2, p(1, 2, 3), 138, 33, 33);
        fails("0 below", 1, 8, p(9, 8, 0), 37);
        fails("-1 below", 1, 8, p(9, 8, -1), 38);
        fails("3 below of two", 1, 8, p(9, 8, 3), 37);
        fails("nothing to take", 1, 0, 33);
        fails("nothing to roll", 1, 6, p(1, 2), 138);
    }

    private static void vectors() {
        gives("P at first, y", 0, 12);
        gives("P at first, x", 16384, 12, 33);
        gives("code 0: P", 16384, 0, 12);
        gives("code 0: F", 16384, 0, 13);
        gives("code 2: P alone", 0, 2, 13);
        gives("code 4: F alone", 0, 4, 12);
        gives("code 4: F", 16384, 4, 13);
        gives("code 14", 16384, 2, 14, 13);
        gives("10: 3, 4, y", 13107, p(3, 4), 10, 12);
        gives("10: 3, 4, x", 9830, p(3, 4), 10, 12, 33);
        gives("11: -3, 4, x", -9830, p(-3, 4), 11, 13, 33);
        gives("11 leaves P", 0, p(-3, 4), 11, 12);
        gives("10: 0, 0", 16384, p(0, 0), 10, 12, 33);
        gives("10: 1, 1", 11585, p(1, 1), 10, 12);
        gives("10: halved", 11585, p(-32768, -32768), 10, 12, 101);
        gives("10: 30001, 1 is 15000, 0", 0, p(30001, 1), 10, 12);
        gives("10: 30000, 1 is as it is", 1, p(30000, 1), 10, 12);
        gives("10: the lowest 16 bits of 65533", -16384, p(1024, 1), 98, p(3), 97, p(0), 10, 12, 33);
    }

    private static void branches() {
        gives("IF of 1", 5, p(1), 88, p(5), 27, p(6), 89);
        gives("IF of 0", 6, p(0), 88, p(5), 27, p(6), 89);
        gives("IF of 0 without ELSE", 4, p(4, 0), 88, p(5), 89);
        gives("IF of -1", 5, p(4, -1), 88, p(5), 89);
        gives("IFs within, passed whole", 7, p(0), 88, p(1), 88, p(5), 27, p(6), 89, 27, p(7), 89);
        gives("IFs within ELSE, passed whole", 8, p(8, 1), 88, 27, p(1), 88, 27, 89, 27, p(7), 89);
        gives("bytes that look like codes", 8, p(8, 0), 88, 0xb2, 89, 27, 89, 64, 2, 89, 89, 0xb8, 89, 27, 65, 1, 27, 89, 89);
        gives("45 within", 8, p(8, 0), 88, 45, 44, 137, 89);
        fails("IF without end", 4, 4, p(0), 88, 1, 2, 3);
        fails("IF that ends within bytes", 4, 4, p(0), 88, 0xb1, 89);
        fails("IF that ends within a code's count", 4, 4, p(0), 88, 64);
        fails("ELSE without end", 4, 0, 27, p(3));
        gives("89 alone", 3, p(3), 89);
    }

    private static void jumps() {
        gives("over a code", 3, p(3, 2), 28, 101, 0);
        gives("if 1", 3, p(3, 2, 1), 120, 101, 0);
        gives("not if 0", -3, p(3, 2, 0), 120, 101, 0);
        gives("if 0", 3, p(3, 2, 0), 121, 101, 0);
        gives("not if 1", -3, p(3, 2, 1), 121, 101, 0);
        HintHouse end = kit(p(1), 28).house();
        Check.due("to the end", end.size(10), 2);
        Check.due("to the end: told(3)", end.told(3), -1);
        fails("beyond the end", 8, 4, p(2), 28);
        fails("before the begin", 8, 4, p(-5), 28);
        Check.due("not taken, beyond the end", kit(p(99, 0), 120).house().size(10), 2);
        fails("taken, beyond the end", 8, 6, p(99, 1), 120);
        gives("a loop of three", 0, p(3), p(1), 97, 32, p(-12), 35, 120);
    }

    private static void functions() {
        byte[] twice = FontKit.prog(p(2), 44, 32, 96, 45);
        gives("called", 6, twice, p(3, 2), 43);
        gives("called three times", 24, twice, p(3, 3, 2), 42);
        gives("called no times", 3, twice, p(3, 0, 2), 42);
        gives("called -1 times", 3, twice, p(3, -1, 2), 42);
        gives("defined again", 9, twice, p(2), 44, 33, p(9), 45, p(3, 2), 43);
        gives("a 45 within bytes", 45, p(2), 44, 0xb0, 45, 45, p(2), 43);
        fails("function 8 of 8", 6, 4, p(8), 44, 45);
        fails("function -1", 6, 4, p(-1), 44, 45);
        fails("no such function", 6, 4, p(3), 43);
        fails("function 64", 6, 4, p(64), 43);
        fails("function 64 is not own code 0", 6, 10, p(0), 137, 45, p(64), 43);
        fails("no such function, no times", 6, 6, p(0, 3), 42);
        fails("without 45", 4, 4, p(3), 44, 1);
        fails("45 outside", 4, 1, 1, 45);
        deep();
        inFunctions();
        // A jump over its 45 lets a function run to the program's end.
        FontKit over = kit(1, p(0), 43, 1);
        over.fpgm = FontKit.prog(p(0), 44, p(2), 28, 45, 1);
        HintHouse ended = over.house();
        Check.due("a function to the program's end", ended.size(10), -104);
        Check.due("its last code's place", ended.told(3), 11);
        FontKit prep = kit(p(0), 43, p(9), 35, 66);
        prep.fpgm = FontKit.prog(p(0), 44, p(5), 45);
        Check.due("fpgm's function in prep", prep.sized(10).held(1, 9), 5);
        prep.prep = FontKit.prog(p(0), 43);
        prep.fpgm = FontKit.prog(1, 1, p(0), 44, p(5), 33, 33, 45);
        HintHouse house = prep.house();
        Check.due("fails in fpgm's function", house.size(10), -101);
        Check.due("its place is one in fpgm", house.told(3), 12);
        Check.due("its steps", house.told(0), 4 + 5);
    }

    private static void deep() {
        // Function 0 counts down and calls itself: 32 in one another are right.
        byte[] self = FontKit.prog(p(0), 44, p(1), 97, 32, 88, p(0), 43, 89, 45);
        Check.due("32 functions", kit(self, p(32, 0), 43).house().size(10) > 0 ? 1 : 0, 1);
        fails("33 functions", 9, 5 + 4 + 3 + 4, self, p(33, 0), 43);
    }

    private static void inFunctions() {
        byte[] inner = FontKit.prog(p(0), 44, p(1), 44, 45);
        fails("44 in a function", 3, 9, inner, p(0), 43);
        byte[] own = FontKit.prog(p(0), 44, p(200), 137, 45);
        fails("137 in a function", 3, 9, own, p(0), 43);
        byte[] empty = FontKit.prog(p(0), 44, 44, 45);
        fails("44 in a function, too few", 1, 5, empty, p(0), 43);
        FontKit kit = kit();
        kit.addSquare(p(0), 44, 45);
        kit.addSquare(44, 45);
        kit.addSquare(p(150), 137, 45);
        HintHouse house = kit.sized(10);
        Check.due("44 in a glyph", house.make(1), -103);
        Check.due("44 in a glyph, too few", house.make(2), -101);
        Check.due("137 in a glyph", house.make(3), -103);
    }

    private static void ownCodes() {
        byte[] own = FontKit.prog(p(40), 137, p(7), 96, 45);
        gives("an own code", 10, own, p(3), 40);
        gives("defined again", 4, own, p(40), 137, p(1), 96, 45, own, p(40), 137, p(1), 96, 45, p(3), 40);
        gives("an own code that is told is not done", 3, p(33), 137, p(7), 45, p(3, 4), 33);
        gives("two own codes", 18, own, p(255), 137, 45, p(3), 40, p(8), 96);
        fails("no own code", 3, 4, p(3), 40);
        fails("a third own code of two", 6, 16, p(40), 137, 45, p(41), 137, 45, p(42), 137, 45);
        fails("own code 256", 11, 4, p(256), 137, 45);
        fails("own code -1", 11, 4, p(-1), 137, 45);
        int[] none = {15, 40, 79, 123, 126, 127, 131, 132, 142, 150, 175};
        for (int code : none) {
            fails("code " + code, 3, 0, code);
        }
        FontKit kit = kit(own);
        kit.addSquare(p(3), 40, 133);
        HintHouse house = kit.sized(10);
        Check.due("an own code in a glyph", house.make(1), 4);
        Check.due("what it gave", house.told(7), 10);
    }

    private static void memory() {
        gives("STORAGE at first", 0, p(15), 67);
        gives("STORAGE", 8, p(15, 8), 66, p(15), 67);
        gives("CVT", -50, p(1), 69);
        gives("CVT set", 7, p(1, 7), 68, p(1), 69);
        gives("CVT scaled", 640, p(1, 640), 112, p(1), 69);
        fails("STORAGE 16", 6, 4, p(16), 67);
        fails("STORAGE -1", 6, 6, p(-1, 0), 66);
        fails("CVT 3", 6, 4, p(3), 69);
        fails("CVT 3 set", 6, 6, p(3, 0), 68);
        fails("CVT -1 scaled", 6, 6, p(-1, 0), 112);
        // BASE 9, SHIFT 3: at 10 v's high four are 1; 0 is -8, 7 is -1, 8 is 1, 15 is 8, each times 8.
        gives("delta 0x10", 100 - 64, p(0x10, 0, 1), 115, p(0), 69);
        gives("delta 0x17", 100 - 8, p(0x17, 0, 1), 115, p(0), 69);
        gives("delta 0x18", 100 + 8, p(0x18, 0, 1), 115, p(0), 69);
        gives("delta 0x1f, twice", 100 + 128, p(0x1f, 0, 0x1f, 0, 2), 115, p(0), 69);
        gives("delta of another size", 100, p(0x2f, 99, 1), 115, p(0), 69);
        gives("delta by 116", 100 + 8, p(-7), 94, p(0x18, 0, 1), 116, p(0), 69);
        gives("delta by 117", 100 + 8, p(-23), 94, p(0x18, 0, 1), 117, p(0), 69);
        gives("delta with SHIFT 0", 100 + 64, p(0), 95, p(0x18, 0, 1), 115, p(0), 69);
        gives("delta with SHIFT 6", 100 - 8, p(6), 95, p(0x10, 0, 1), 115, p(0), 69);
        gives("no deltas", 100, p(0), 115, p(0), 69);
        fails("delta of no CVT", 6, 8, p(0x18, 3, 1), 115);
        fails("-1 deltas", 11, 4, p(-1), 115);
        fails("-1 deltas of points", 11, 4, p(-1), 93);
        fails("two deltas, three numbers", 1, 10, p(1, 2, 3, 2), 115);
        fails("SHIFT 7", 11, 4, p(7), 95);
        fails("SHIFT -1", 11, 4, p(-1), 95);
        fails("LOOP 0", 11, 4, p(0), 23);
        Check.due("LOOP 65535", kit(p(1024, 1), 98, p(1), 97, 23).house().size(10), 5);
        fails("LOOP 65536", 11, 7, p(1024, 1), 98, 23);
        fails("by 0", 7, 6, p(5, 0), 98);
    }

    private static void pushes() {
        gives("U1", 255, 0xb0, 255);
        gives("8 U1s", 8, 0xb7, 1, 2, 3, 4, 5, 6, 7, 8, 36);
        gives("8 U1s, the last one on top", 8, 0xb7, 1, 2, 3, 4, 5, 6, 7, 8);
        gives("S2", -2, 0xb8, 255, 254);
        gives("8 S2s", 8, 0xbf, 0, 1, 0, 2, 0, 3, 0, 4, 0, 5, 0, 6, 0, 7, 0, 8);
        gives("none of 64", 0, 64, 0, 36);
        gives("64", 200, 64, 2, 100, 200);
        gives("65", -32768, 65, 1, 128, 0);
        fails("U1 without", 4, 0, 0xb0);
        fails("8 U1s, 7 there", 4, 1, 1, 0xb7, 1, 2, 3, 4, 5, 6, 7);
        fails("S2 with one byte", 4, 0, 0xb8, 1);
        fails("64 without", 4, 0, 64);
        fails("64 with one of two", 4, 0, 64, 2, 1);
        fails("65 with three of four", 4, 0, 65, 2, 1, 2, 3);
    }

    private static void failures() {
        FontKit kit = kit(0xb2, 1, 2, 3, 32, 36);
        kit.stack = 4;
        HintHouse house = kit.house();
        Check.due("a fifth of four", house.size(10), -102);
        Check.due("a fifth of four: told(3)", house.told(3), 5);
        Check.due("a fifth of four: told(9)", house.told(9), 4);
        kit.prep = FontKit.prog(0xb7, 1, 2, 3, 4, 5, 6, 7, 8);
        house = kit.house();
        Check.due("eight of four", house.size(10), -102);
        Check.due("those that fit are on it", house.told(9), 4);
        kit.prep = FontKit.prog(0xb7, 1, 2, 3, 4, 5, 6);
        house = kit.house();
        Check.due("4 goes before 2", house.size(10), -104);
        Check.due("none is on it", house.told(9), 0);
        kit.stack = 0;
        kit.prep = FontKit.prog(1, 36);
        Check.due("a stack of none", kit.house().size(10), -102);
        fails("1 goes before 5", 1, 0, 47);
        fails("1 goes before 5, by LOOP", 1, 8, p(3), 23, 64, 1, 9, 51);
        fails("LOOP and d", 1, 9, p(1), 23, 64, 1, 9, 1, 56);
        fails("1 goes before 7", 1, 4, p(0), 98);
        fails("zone 2", 5, 4, p(2), 19);
        fails("zone -1", 5, 4, p(-1), 22);
        fails("no point of zone 1 in prep", 5, 4, p(0), 46);
        fails("no contour in prep", 5, 14, p(0), 19, p(0), 20, p(0), 53);
        fails("5 goes before 6", 5, 6, p(99, 99), 62);
        fails("5 goes before 6, by 224", 5, 6, p(0, 99), 224);
        FontKit one = kit(p(0), 20);
        one.zones = 1;
        one.twilight = 0;
        Check.due("zone 0 with ZONES 1", one.house().size(10), -105);
        one.prep = FontKit.prog(p(1), 22, 48, 49);
        Check.due("zone 1 with ZONES 1, 48 and 49 in prep", one.house().size(10), 4);
        Check.due("54 of zone 1 in prep", kit(p(0), 19, p(0), 20, p(1), 54, p(1), 55).house().size(10), 8);
        one.prep = FontKit.prog(p(0), 54);
        Check.due("54 without its reference", one.house().size(10), -105);
    }

    private static void steps() {
        HintHouse house = kit(p(0), 28).house();
        Check.due("a jump to itself takes what it goes by", house.size(10), -101);
        house = kit(1, p(-5), 28).house();
        Check.due("without end", house.size(10), -110);
        Check.due("20000 steps", house.told(0), 20000);
        Check.due("the place of the 20001st", house.told(3), placeOf20001());
        FontKit kit = kit(p(0), 43);
        kit.fpgm = FontKit.prog(p(0), 44, 45, p(19993, 0), 42);
        house = kit.house();
        Check.due("20000 steps of both", house.size(10), 20000);
        kit.fpgm = FontKit.prog(p(0), 44, 45, p(19994, 0), 42);
        house = kit.house();
        Check.due("20001 steps of both", house.size(10), -110);
        Check.due("20000 of them are told", house.told(0), 20000);
        Check.due("told(2)", house.told(2), 10);
    }

    /** 1 at 0, the push at 1, the jump at 5, which goes to 0 again: three steps a round. */
    private static int placeOf20001() {
        int[] places = {0, 1, 5};
        return places[20000 % 3];
    }
}

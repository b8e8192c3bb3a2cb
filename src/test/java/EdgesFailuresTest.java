import java.util.Arrays;

/** The edges of the FAILURES that "6 PROGRAMS" tells: the first number that fails, and the last that does not. */
public final class EdgesFailuresTest {
    private static final int NOT_TOLD = -1;
    private static final int[] TAKES = takes();

    public static void main(String[] args) {
        tooFewForEachCode();
        justEnoughForEachCode();
        tooFewOfNone();
        tooFewByLoop();
        tooFewBelow();
        tooFewDeltas();
        tooManyForEachCode();
        thoseThatFit();
        codesNotTold();
        ownCodes();
        endsWithinBytes();
        passesOverBytes();
        endsInParts();
        endsInFunctions();
        zonesAndEntries();
        jumps();
        jumpsInFunctions();
        functionsInOneAnother();
        stepsOfASize();
        stepsOfAGlyph();
        tenGoesFirst();
        numbersThatAreNone();
        programsBegin();
        Check.done();
    }

    private static int[] p(int... values) {
        return values;
    }

    private static void set(int[] takes, int n, int from, int to) {
        Arrays.fill(takes, from, to + 1, n);
    }

    /** As the document tells them, with LOOP 1 and no deltas. */
    private static int[] takes() {
        int[] takes = new int[256];
        set(takes, 2, 6, 11);
        set(takes, 1, 16, 23);
        set(takes, 1, 28, 33);
        int[] one = {26, 37, 38, 41, 43, 44, 46, 47, 50, 51, 52, 53, 54, 55, 57, 60, 67, 69, 70, 71, 86, 87, 88, 92, 93, 94, 95,
            118, 119, 128, 133, 136, 137, 141};
        int[] two = {35, 39, 42, 56, 58, 59, 62, 63, 66, 68, 72, 73, 74, 90, 91, 112, 120, 121, 129, 130, 134, 135, 139, 140};
        for (int code : one) {
            takes[code] = 1;
        }
        for (int code : two) {
            takes[code] = 2;
        }
        takes[138] = 3;
        set(takes, 2, 80, 85);
        set(takes, 2, 96, 99);
        set(takes, 1, 100, 111);
        set(takes, 1, 113, 117);
        set(takes, 1, 192, 223);
        set(takes, 2, 224, 255);
        for (int code : new int[] {15, 40, 79, 123, 126, 127, 131, 132}) {
            takes[code] = NOT_TOLD;
        }
        set(takes, NOT_TOLD, 142, 175);
        return takes;
    }

    private static int[] row(int count, int v) {
        int[] row = new int[count];
        Arrays.fill(row, v);
        return row;
    }

    /** "1 the STACK has too few numbers ... of one STEP 10, then 1 (as many as it takes), then as told". */
    private static void tooFewForEachCode() {
        for (int code = 0; code < 256; code++) {
            for (int there = 0; there < TAKES[code]; there++) {
                for (int v : p(0, 9999, -1)) {
                    Prep.fails("code " + code + " with " + there, 1, 2 + 2 * there, row(there, v), code);
                    Triangle.fails("code " + code + " with " + there + " in a glyph", 1, row(there, v), code);
                    FontKit far = Triangle.kit(p(9999), 16, p(9999), 17, p(9999), 18, row(there, v), code);
                    Check.due("code " + code + " with " + there + ", no references", far.sized(10).make(1), -101);
                }
            }
        }
    }

    private static void justEnoughForEachCode() {
        for (int code = 0; code < 256; code++) {
            if (TAKES[code] > 0 && code != 37 && code != 38) {
                boolean deltas = code == 93 || code >= 113 && code <= 117;
                HintHouse house = Prep.kit(p(0), 22, row(TAKES[code], deltas ? 0 : 1), code).house();
                Check.due("code " + code + " with " + TAKES[code], house.size(10) == -101 ? 1 : 0, 0);
            }
        }
    }

    /** 1 goes before 6, even if there is no STORAGE, no CVT, no FUNCTION at all, and before 2 on a STACK of none. */
    private static void tooFewOfNone() {
        for (int code : p(42, 43, 44, 62, 63, 66, 67, 68, 69, 112, 224, 255)) {
            for (int there = 0; there < TAKES[code]; there++) {
                FontKit kit = new FontKit().addEmpty();
                kit.storage = 0;
                kit.functions = 0;
                kit.prep = FontKit.prog(row(there, 0), code);
                Prep.failsIn("code " + code + " with " + there + ", none of them", kit, 1, 2 + 2 * there);
            }
        }
        for (int code = 0; code < 256; code++) {
            if (TAKES[code] > 0) {
                FontKit kit = new FontKit().addEmpty();
                kit.stack = 0;
                kit.prep = FontKit.prog(code);
                Prep.failsIn("code " + code + " on a STACK of none", kit, 1, 0);
            }
        }
    }

    private static void tooFewByLoop() {
        for (int code : p(50, 51, 56, 57, 60, 128)) {
            int more = code == 56 ? 1 : 0;
            for (int loop : p(1, 2, 5, 20)) {
                Triangle.fails("code " + code + " by LOOP " + loop, 1, p(loop), 23, row(loop + more - 1, 0), code);
                HintHouse house = Triangle.kit(p(loop), 23, row(loop + more, 0), code).sized(10);
                Check.due("code " + code + " by LOOP " + loop + ", all there", house.make(1), 4);
                // 5 comes behind it, also of points that are on the STACK.
                Triangle.fails("code " + code + " by LOOP " + loop + ", no such points", 1, p(loop), 23, row(loop + more - 1, 99), code);
                Triangle.fails("code " + code + " by LOOP " + loop + ", no such point", 5, p(loop), 23, row(loop, 99), row(more, 0), code);
            }
        }
        Triangle.fails("LOOP 65535", 1, FontKit.number(65535), 23, row(30, 0), 128);
    }

    /** "37 (k - the k-th below); 38: likewise (k below 1, or too great: FAILURE 1)". */
    private static void tooFewBelow() {
        for (int code = 37; code <= 38; code++) {
            for (int k = -2; k <= 5; k++) {
                byte[] program = FontKit.prog(p(11, 12, 13, k), code);
                if (k >= 1 && k <= 3) {
                    Prep.gives("code " + code + " of " + k, 14 - k, program);
                    Prep.gives("code " + code + " of " + k + ": how many", code == 37 ? 4 : 3, program, 36);
                } else {
                    Prep.fails("code " + code + " of " + k, 1, 10, program);
                }
            }
            Prep.fails("code " + code + " of the least", 1, FontKit.number(Integer.MIN_VALUE).length + 4, p(5), FontKit.number(Integer.MIN_VALUE), code);
            Prep.fails("code " + code + " of the greatest", 1, FontKit.number(Integer.MAX_VALUE).length + 4, p(5), FontKit.number(Integer.MAX_VALUE), code);
            Prep.fails("code " + code + " of 1 alone", 1, 4, p(1), code);
        }
        // Those above it come down, those below stay.
        Prep.gives("38 of 2, on top", 3, p(1, 2, 3, 4, 2), 38);
        Prep.gives("38 of 2, then", 4, p(1, 2, 3, 4, 2), 38, 33);
        Prep.gives("38 of 2, then the next", 2, p(1, 2, 3, 4, 2), 38, 33, 33);
        Prep.gives("38 of 4, lowest", 2, p(1, 2, 3, 4, 4), 38, 33, 33, 33);
    }

    /** "(n below 0: FAILURE 11; then 1 for 2 n.)" */
    private static void tooFewDeltas() {
        for (int code : p(93, 113, 114, 115, 116, 117)) {
            for (int n = 1; n <= 3; n++) {
                Prep.fails("code " + code + ", " + n, 1, 4 + 4 * n, row(2 * n - 1, 0), p(n), code);
                Check.due("code " + code + ", " + n + ", all there", Prep.kit(row(2 * n, 0), p(n), code).house().size(10), 3);
            }
            Check.due("code " + code + ", none", Prep.kit(p(0), code).house().size(10), 2);
            Prep.fails("code " + code + ", -1", 11, 4, p(-1), code);
            Prep.fails("code " + code + ", the least", 11, FontKit.number(Integer.MIN_VALUE).length, FontKit.number(Integer.MIN_VALUE), code);
            Prep.fails("code " + code + ", 2^30", 1, FontKit.number(1 << 30).length + 8, p(0, 0, 0), FontKit.number(1 << 30), code);
            Prep.fails("code " + code + ", the greatest", 1, FontKit.number(Integer.MAX_VALUE).length + 8, p(0, 0, 0), FontKit.number(Integer.MAX_VALUE), code);
            // 1 goes first, even if the pairs that are there have no point, no CVT.
            Prep.fails("code " + code + ", two, one and a half there", 1, 12, p(0x18, 0x18, 999), p(2), code);
        }
    }

    /** "2 it would have more than STACK". */
    private static void tooManyForEachCode() {
        int[][] pushes = {{12, 2}, {13, 2}, {32, 1}, {36, 1}, {75, 1}, {76, 1}};
        for (int[] row : pushes) {
            for (int there = 1; there <= 6; there++) {
                stackOf6("code " + row[0] + " on " + there, there, row[1], new byte[] {(byte) row[0]});
            }
        }
        for (int n = 0; n <= 8; n++) {
            for (int there = 0; there <= 6; there++) {
                stackOf6(n + " by 64 on " + there, there, n, FontKit.prog(64, n, new byte[n]));
                stackOf6(n + " by 65 on " + there, there, n, FontKit.prog(65, n, new byte[2 * n]));
                if (n > 0) {
                    stackOf6(n + " U1s on " + there, there, n, FontKit.prog(175 + n, new byte[n]));
                    stackOf6(n + " S2s on " + there, there, n, FontKit.prog(183 + n, new byte[2 * n]));
                }
            }
        }
        // What takes as many as it gives is right on a full STACK.
        for (int code : p(35, 37, 67, 69, 70, 71, 86, 92, 96, 100, 104, 108, 136, 138, 139)) {
            FontKit kit = Prep.kit(p(0), 22, p(1, 1, 1, 1, 1, 1), code);
            kit.stack = 6;
            HintHouse house = kit.house();
            Check.due("code " + code + " on a full STACK", house.size(10), 4);
            Check.due("code " + code + " on a full STACK: told(9)", house.told(9), 6);
        }
    }

    /** "(of several numbers those that fit are on it then)": told(9) shows it. */
    private static void stackOf6(String what, int there, int more, byte[] code) {
        FontKit kit = Prep.kit(row(there, 0), code);
        kit.stack = 6;
        HintHouse house = kit.house();
        Check.due(what, house.size(10), there + more <= 6 ? 2 : -102);
        Check.due(what + ": told(3)", house.told(3), there + more <= 6 ? -1 : 2 + 2 * there);
        Check.due(what + ": told(9)", house.told(9), Math.min(there + more, 6));
    }

    /** The numbers that fit are the first ones: a glyph's FAILURE leaves nothing to see, so the peak alone tells. */
    private static void thoseThatFit() {
        FontKit kit = new FontKit().addSquare(p(1, 2, 3), 65, 2, 0, 1).addSquare(p(1, 2));
        kit.stack = 4;
        HintHouse house = kit.house();
        Check.due("65 of 2 bytes: 4 goes before 2", house.size(10), 0);
        Check.due("make(0)", house.make(0), -104);
        Check.due("told(9)", house.told(9), 3);
        Check.due("make(1)", house.make(1), 4);
        Check.due("told(9) stays", house.told(9), 3);
    }

    /** "3 no such code ... Others: 3, if there is no OWN CODE". */
    private static void codesNotTold() {
        for (int code = 0; code < 256; code++) {
            if (TAKES[code] == NOT_TOLD) {
                Prep.fails("code " + code, 3, 0, code);
                Prep.fails("code " + code + " with numbers", 3, 8, p(1, 1, 1), code);
                Triangle.fails("code " + code + " in a glyph", 3, p(0, 0), code);
            } else if (TAKES[code] == 0 && code != 27 && code != 45 && code != 64 && code != 65 && (code < 176 || code > 191)) {
                Check.due("code " + code + " takes none", Prep.kit(code).house().size(10), 1);
            }
        }
    }

    /** "OWN CODE c (0 .. 255; else 11; ...), which is done where no code is told below and as here". */
    private static void ownCodes() {
        for (int code = 0; code < 256; code++) {
            byte[] own = FontKit.prog(p(code), 137, p(15, 77), 66, 45);
            if (TAKES[code] == NOT_TOLD) {
                HintHouse house = Prep.ran("own code " + code, own, code);
                Check.due("own code " + code, house.held(1, 15), 77);
            } else {
                HintHouse house = Prep.ran("own code " + code, own);
                Check.due("own code " + code + " is noted", house.held(1, 15), 0);
                if (TAKES[code] == 0 && code != 27 && code != 45 && code != 64 && code != 65 && (code < 176 || code > 191)) {
                    Check.due("code " + code + " is done as told", Prep.ran("code " + code, own, code).held(1, 15), 0);
                }
            }
        }
        for (int c : p(-1, 256, -32768, 32767)) {
            Prep.fails("own code " + c, 11, 4, p(c), 137, 45);
        }
        // 11 goes before 6, 3 before 11, 1 before 3.
        Prep.fails("own code 256 of a third", 11, 16, p(150), 137, 45, p(151), 137, 45, p(256), 137, 45);
        Prep.fails("own code 152 of a third", 6, 16, p(150), 137, 45, p(151), 137, 45, p(152), 137, 45);
        Triangle.fails("own code 256 in a glyph", 3, p(256), 137, 45);
        Triangle.fails("no own code in a glyph", 1, 137, 45);
        Triangle.fails("FUNCTION 99 in a glyph", 3, p(99), 44, 45);
        Prep.fails("own code 256 in a FUNCTION", 3, 9, p(0), 44, p(256), 137, 45, p(0), 43);
        Prep.fails("44 in an own code", 3, 9, p(150), 137, p(0), 44, 45, 150);
        // Each of these goes before 4: there is no 45 behind.
        Triangle.fails("own code 150 in a glyph, without its 45", 3, p(150), 137);
        Triangle.fails("FUNCTION 0 in a glyph, without its 45", 3, p(0), 44);
        Prep.fails("own code 256, without its 45", 11, 4, p(256), 137);
        Prep.fails("FUNCTION 8, without its 45", 6, 4, p(8), 44);
        Prep.fails("own code 152 of a third, without its 45", 6, 16, p(150), 137, 45, p(151), 137, 45, p(152), 137);
    }

    /** "4 the program ends within a code's bytes". */
    private static void endsWithinBytes() {
        for (int n = 1; n <= 8; n++) {
            for (int there = 0; there <= 2 * n; there++) {
                ends(n + " U1s, " + there, 175 + n, there, there >= n, new byte[0]);
                ends(n + " S2s, " + there, 183 + n, there, there >= 2 * n, new byte[0]);
                ends(n + " by 64, " + there, 64, there, there >= n, new byte[] {(byte) n});
                ends(n + " by 65, " + there, 65, there, there >= 2 * n, new byte[] {(byte) n});
            }
        }
        Prep.fails("64 alone", 4, 0, 64);
        Prep.fails("65 alone", 4, 1, 1, 65);
        Check.due("64 of none", Prep.kit(64, 0).house().size(10), 1);
        Check.due("65 of none", Prep.kit(65, 0).house().size(10), 1);
        FontKit most = Prep.kit(64, 255, new byte[255]);
        most.stack = 256;
        Check.due("255 by 64", most.house().size(10), 1);
        most.prep = FontKit.prog(64, 255, new byte[254]);
        Prep.failsIn("255 by 64 less a byte", most, 4, 0);
        most.prep = FontKit.prog(65, 255, new byte[509]);
        Prep.failsIn("255 by 65 less a byte", most, 4, 0);
        // What stands behind the program is another table's, or the glyph's flags: it is not read.
        Triangle.fails("U1 at a glyph program's end", 4, 176);
        Triangle.fails("64 at a glyph program's end", 4, 64);
        Triangle.fails("65 with its number at a glyph program's end", 4, 65, 1);
    }

    private static void ends(String what, int code, int there, boolean right, byte[] count) {
        FontKit kit = Prep.kit(code, count, new byte[there]);
        HintHouse house = kit.house();
        int answer = house.size(10);
        if (right) {
            Check.due(what, answer > 0 ? 1 : 0, 1);
        } else {
            Check.due(what, answer, -104);
            Check.due(what + ": told(3)", house.told(3), 0);
            Check.due(what + ": told(9)", house.told(9), 0);
        }
    }

    /** "Passing over codes with their bytes": bytes that look like 89 or 45 are none, and each code has all of its bytes. */
    private static void passesOverBytes() {
        for (int n = 0; n <= 8; n++) {
            over(n + " by 64", FontKit.prog(64, n), n);
            over(n + " by 65", FontKit.prog(65, n), 2 * n);
            if (n > 0) {
                over(n + " U1s", FontKit.prog(175 + n), n);
                over(n + " S2s", FontKit.prog(183 + n), 2 * n);
            }
        }
        for (int code : p(0, 15, 63, 66, 142, 175, 192, 224, 255)) {
            over("code " + code, FontKit.prog(code), 0);
        }
        over("255 by 64", FontKit.prog(64, 255), 255);
        over("255 by 65", FontKit.prog(65, 255), 510);
    }

    private static void over(String what, byte[] code, int bytes) {
        byte[] ifs = filled(bytes, 89);
        byte[] ends = filled(bytes, 45);
        byte[] elses = filled(bytes, 27);
        steps(what + " in an IF", 2, p(0), 88, code, ifs, 89);
        steps(what + " in an IF with an ELSE", 4, p(0), 88, code, elses, 27, 1, 89);
        steps(what + " in an ELSE", 3, p(1), 88, 27, code, ifs, 89);
        steps(what + " in a FUNCTION", 2, p(0), 44, code, ends, 45);
        steps(what + " in an OWN CODE", 2, p(150), 137, code, ends, 45);
        for (int less = 1; less <= Math.min(bytes, 3); less++) {
            byte[] short89 = filled(bytes - less, 89);
            Prep.fails(what + ", " + less + " less, in an IF", 4, 4, p(0), 88, code, short89);
            Prep.fails(what + ", " + less + " less, in an ELSE", 4, 5, p(1), 88, 27, code, short89);
            Prep.fails(what + ", " + less + " less, in a FUNCTION", 4, 4, p(0), 44, code, filled(bytes - less, 45));
            Prep.fails(what + ", " + less + " less, in an OWN CODE", 4, 4, p(150), 137, code, filled(bytes - less, 45));
        }
        Prep.fails(what + ", then the end, in an IF", 4, 4, p(0), 88, code, ifs);
        Prep.fails(what + ", then the end, in a FUNCTION", 4, 4, p(0), 44, code, ends);
    }

    private static byte[] filled(int count, int v) {
        byte[] bytes = new byte[count];
        Arrays.fill(bytes, (byte) v);
        return bytes;
    }

    private static void steps(String what, int due, Object... program) {
        Check.due(what, Prep.kit(program).house().size(10), due);
    }

    /** "a part that is passed over": without its 89, its 45. */
    private static void endsInParts() {
        Prep.fails("88 at the end", 4, 4, p(0), 88);
        steps("88 of 1 at the end", 2, p(1), 88);
        Prep.fails("27 at the end", 4, 0, 27);
        Prep.fails("44 at the end", 4, 4, p(0), 44);
        Prep.fails("137 at the end", 4, 4, p(150), 137);
        Prep.fails("an inner 89 alone", 4, 4, p(0), 88, 88, 89);
        Prep.fails("an inner 27 and 89 alone", 4, 4, p(0), 88, 88, 27, 89);
        steps("two 89s", 2, p(0), 88, 88, 89, 89);
        steps("three 89s", 2, p(0), 88, 88, 88, 89, 89, 89);
        Prep.fails("two 89s of three", 4, 4, p(0), 88, 88, 88, 89, 89);
        steps("an inner 27 is passed", 5, p(0), 88, 88, 27, 89, 27, 1, 1, 89);
        Prep.fails("64 without its number", 4, 4, p(0), 88, 64);
        Prep.fails("65 without its number, in a FUNCTION", 4, 4, p(0), 44, 65);
        // "44, 137, 45 count for nothing there": the 45 does not end anything, the 44 begins nothing.
        steps("44 and 45 in an IF", 2, p(0), 88, 44, 89);
        steps("45 in an IF", 2, p(0), 88, 45, 89);
        steps("137 in an IF", 2, p(0), 88, 137, 45, 45, 89);
        // In a FUNCTION'S definition IFs count for nothing.
        steps("88 and 27 in a FUNCTION", 2, p(0), 44, 88, 27, 45);
        steps("44 and 137 in a FUNCTION", 2, p(0), 44, 44, 137, 45);
        // A program may end in an IF whose part is done.
        steps("an IF without 89 that is done", 3, p(1), 88, 1);
    }

    /** "or in a FUNCTION (also a 45 outside of one)"; told(3) is the code begun last. */
    private static void endsInFunctions() {
        Prep.fails("45 outside", 4, 0, 45);
        Triangle.fails("45 outside, in a glyph", 4, 1, 45);
        Prep.fails("45 behind a FUNCTION", 4, 5 + 5, p(0), 44, 45, p(0), 45);
        FontKit kit = Prep.kit(1, p(0), 43, 1, 1);
        // FUNCTION 0 jumps over its 45 to the 1 behind it, and there the program ends.
        kit.fpgm = FontKit.prog(p(0), 44, p(2), 28, 45, 1);
        Prep.failsIn("to the program's end", kit, 4, 11);
        kit.fpgm = FontKit.prog(p(0), 44, p(2), 28, 45);
        Prep.failsIn("a jump to the program's end", kit, 4, 9);
        kit.fpgm = FontKit.prog(p(0), 44, p(1), 43, 45, p(1), 44, p(2), 28, 45);
        Prep.failsIn("in the inner one", kit, 4, 20);
        // A FUNCTION that is called by the last code of another one returns to its 45.
        kit.fpgm = FontKit.prog(p(0), 44, p(1), 43, 45, p(1), 44, 45);
        Check.due("to the other one's 45", kit.house().size(10), 4 + 1 + 2 + 2 + 1 + 1 + 2);
    }

    /** "5 no such point, zone, contour, 6 no such CVT, STORAGE, FUNCTION, OWN CODE, 7 by 0". */
    private static void zonesAndEntries() {
        for (int code = 19; code <= 22; code++) {
            for (int z = -1; z <= 2; z++) {
                FontKit kit = Prep.kit(p(z), code);
                boolean both = z == 0 || z == 1;
                Check.due("zone " + z + " by " + code, kit.house().size(10), both ? 2 : -105);
                kit.zones = 1;
                kit.twilight = 0;
                Check.due("zone " + z + " by " + code + ", ZONES 1", kit.house().size(10), z == 1 ? 2 : -105);
            }
        }
        for (int code = 54; code <= 55; code++) {
            for (int z = -1; z <= 2; z++) {
                FontKit kit = Triangle.kit(p(z), code);
                Check.due("zone " + z + " by " + code, kit.sized(10).make(1), z == 0 || z == 1 ? 4 : -105);
                kit.zones = 1;
                kit.twilight = 0;
                Check.due("zone " + z + " by " + code + ", ZONES 1", kit.sized(10).make(1), z == 1 ? 4 : -105);
            }
        }
        int[][] entries = {{66, 16}, {67, 16}, {68, 3}, {69, 3}, {112, 3}};
        for (int[] row : entries) {
            Object value = row[0] == 67 || row[0] == 69 ? p() : p(5);
            for (int i : p(0, row[1] - 1)) {
                Check.due("entry " + i + " by " + row[0], Prep.kit(p(i), value, row[0]).house().size(10), 3);
            }
            for (int i : p(-1, row[1], 32767, -32768)) {
                Prep.fails("entry " + i + " by " + row[0], 6, row[0] == 67 || row[0] == 69 ? 6 : 8, p(i), value, row[0]);
            }
        }
        for (int f : p(-1, 0, 1, 8, 63, 64, 65, 319, 320)) {
            Prep.fails("FUNCTION " + f + " by 43", 6, 4, p(f), 43);
            Prep.fails("FUNCTION " + f + " by 42", 6, 6, p(1, f), 42);
            Prep.fails("FUNCTION " + f + " by 42, no times", 6, 6, p(0, f), 42);
            Prep.fails("FUNCTION " + f + " by 42, -1 times", 6, 6, p(-1, f), 42);
        }
        for (int f : p(-1, 8, 9, 64, 32767)) {
            Prep.fails("FUNCTION " + f + " by 44", 6, 4, p(f), 44, 45);
        }
        steps("FUNCTION 7 by 44", 2, p(7), 44, 45);
        Prep.fails("by 0", 7, 6, p(0, 0), 98);
        Prep.fails("5 by 0", 7, 6, p(5, 0), 98);
        Prep.gives("0 by 5", 0, p(0, 5), 98);
    }

    /** "8 a jump out of the program (to its end is right)". */
    private static void jumps() {
        for (int code : p(28, 120, 121)) {
            int[] taken = code == 28 ? p() : p(code == 120 ? 1 : 0);
            int own = code == 28 ? 7 : 9;
            // 1, the push of n, the push of b (if any), the code, two codes behind it.
            for (int n = -own - 2; n <= 5; n++) {
                byte[] program = FontKit.prog(1, p(n), taken, code, 1, 1);
                int to = own + n;
                HintHouse house = Prep.kit(program).house();
                int answer = house.size(10);
                if (to < 0 || to > own + 3) {
                    Check.due("code " + code + " by " + n, answer, -108);
                    Check.due("code " + code + " by " + n + ": told(3)", house.told(3), own);
                } else if (n > 0) {
                    Check.due("code " + code + " by " + n, answer, 4 + 3 - n);
                } else {
                    // It goes round and round, or comes where the bytes of a push are done as codes.
                    Check.due("code " + code + " by " + n + " does not leave", answer == -108 ? 1 : 0, 0);
                }
            }
        }
        Prep.fails("by the greatest", 8, FontKit.number(Integer.MAX_VALUE).length, FontKit.number(Integer.MAX_VALUE), 28);
        Prep.fails("by the least", 8, FontKit.number(Integer.MIN_VALUE).length, FontKit.number(Integer.MIN_VALUE), 28);
        steps("120 of 0 beyond the end", 2, p(99, 0), 120);
        steps("121 of 1 beyond the end", 2, p(99, 1), 121);
        steps("120 of 0 before the begin", 2, p(-99, 0), 120);
        Prep.fails("back to the begin, for ever", 10, 20000 % 3 == 0 ? 0 : 20000 % 3 == 1 ? 1 : 5, 1, p(-5), 28);
        Triangle.fails("beyond a glyph program's end", 8, p(2), 28);
        Triangle.fails("before a glyph program's begin", 8, p(-5), 28);
        Check.due("to a glyph program's end", Triangle.kit(p(1), 28).sized(10).make(1), 4);
    }

    /** The program of a FUNCTION is the one that it stands in. */
    private static void jumpsInFunctions() {
        FontKit kit = Prep.kit(1, 1, 1, 1, 1, 1, 1, 1, 1, 1, 1, 1, 1, 1, 1, 1, 1, 1, 1, 1, p(0), 43);
        // The jump stands at 9, the 45 at 10, the program ends at 12.
        int[][] due = {{1, -1}, {2, 4}, {3, 4}, {4, 8}, {-10, 8}};
        for (int[] row : due) {
            kit.fpgm = FontKit.prog(p(0), 44, p(row[0]), 28, 45, 1);
            HintHouse house = kit.house();
            int answer = house.size(10);
            if (row[1] < 0) {
                Check.due("to its 45", answer, 3 + 20 + 2 + 3);
            } else {
                Check.due("by " + row[0], answer, -100 - row[1]);
                Check.due("by " + row[0] + ": told(3)", house.told(3), row[0] == 2 ? 11 : 9);
            }
        }
        // To fpgm's begin: there 44 fails, in a FUNCTION.
        kit.fpgm = FontKit.prog(p(0), 44, p(-9), 28, 45, 1);
        Prep.failsIn("to fpgm's begin", kit, 3, 4);
    }

    /** "9 more than 32 FUNCTIONS in one another", OWN CODES among them. */
    private static void functionsInOneAnother() {
        byte[] self = FontKit.prog(p(0), 44, p(1), 97, 32, 88, p(0), 43, 89, 45);
        byte[] own = FontKit.prog(p(150), 137, p(1), 97, 32, 88, 150, 89, 45);
        byte[] times = FontKit.prog(p(0), 44, p(1), 97, 32, 88, p(1, 0), 42, 89, 45);
        for (int deep = 31; deep <= 34; deep++) {
            boolean right = deep <= 32;
            // Each: a push, 97, 32, 88, 45; each but the last one: a push, 43, 89.
            int due = right ? 4 + 5 * deep + 3 * (deep - 1) : -109;
            Check.due(deep + " FUNCTIONS", Prep.kit(self, p(deep, 0), 43).house().size(10), due);
            Check.due(deep + " OWN CODES", Prep.kit(own, p(deep), 150).house().size(10) > 0 ? 1 : 0, right ? 1 : 0);
            Check.due(deep + " FUNCTIONS by 42", Prep.kit(times, p(deep, 0), 43).house().size(10) > 0 ? 1 : 0, right ? 1 : 0);
        }
        Prep.fails("33 FUNCTIONS", 9, 16, self, p(33, 0), 43);
        Prep.fails("33 OWN CODES", 9, 12, own, p(33), 150);
        Prep.fails("33 FUNCTIONS by 42", 9, 18, times, p(33, 0), 43);
        // One behind the other is not in one another.
        steps("100 FUNCTIONS, one behind the other", 2 + 2 + 100, p(0), 44, 45, p(100, 0), 42);
        FontKit mixed = Prep.kit(p(33, 0), 43);
        mixed.fpgm = FontKit.prog(p(0), 44, p(1), 97, 32, 88, 150, 89, 45, p(150), 137, p(1), 97, 32, 88, p(0), 43, 89, 45);
        Check.due("33, one and the other", mixed.house().size(10), -109);
        mixed.prep = FontKit.prog(p(32, 0), 43);
        Check.due("32, one and the other", mixed.house().size(10) > 0 ? 1 : 0, 1);
        // 6 is asked ahead of it.
        FontKit none = Prep.kit(p(32, 0), 43);
        none.fpgm = FontKit.prog(p(0), 44, p(1), 97, 32, 88, p(0), 43, 27, p(5), 43, 89, 45);
        Check.due("no such FUNCTION in the 32nd", none.house().size(10), -106);
    }

    /** "10 a 20001st STEP (of a SIZE ...; it does not count as one)". */
    private static void stepsOfASize() {
        for (int more = -1; more <= 2; more++) {
            // 3 steps here, 2 and the 45s there, and a 1 at the end.
            FontKit kit = Prep.kit(p(0), 43, 1);
            kit.fpgm = FontKit.prog(p(0), 44, 45, p(20000 - 8 + more, 0), 42);
            HintHouse house = kit.house();
            Check.due("20000 and " + more, house.size(10), more <= 0 ? 20000 + more : -110);
            Check.due("20000 and " + more + ": told(0)", house.told(0), Math.min(20000, 20000 + more));
            Check.due("20000 and " + more + ": told(2)", house.told(2), more <= 0 ? 0 : 10);
            Check.due("20000 and " + more + ": told(6)", house.told(6), more <= 0 ? 10 : 0);
        }
        // A size of its own counts anew.
        FontKit kit = Prep.kit();
        kit.fpgm = FontKit.prog(p(0), 44, 45, p(15000, 0), 42);
        HintHouse house = kit.house();
        Check.due("15004 steps", house.size(10), 15004);
        Check.due("15004 steps again", house.size(11), 15004);
    }

    /** "(... or of all that is MADE for one glyph ...)": parts and the whole together. */
    private static void stepsOfAGlyph() {
        for (int more = -1; more <= 1; more++) {
            FontKit kit = new FontKit();
            kit.fpgm = FontKit.prog(p(0), 44, 45);
            kit.addSquare(p(9996, 0), 42);
            byte[] two = FontKit.composed(0, FontKit.part(34, 0, 0, 0), FontKit.part(2 + 256, 0, 0, 0));
            // Two times 9998, and 4 more of its own.
            kit.add(0, 0, FontKit.withProgram(two, p(2 + more, 0), 42));
            HintHouse house = kit.sized(10);
            Check.due("20000 and " + more, house.make(1), more <= 0 ? 8 : -110);
            Check.due("20000 and " + more + ": told(0)", house.told(0), Math.min(20000, 20000 + more));
            Check.due("one of its parts alone", house.make(0), 4);
            Check.due("one of its parts alone: told(0)", house.told(0), 9998);
        }
    }

    /** "of one STEP 10, then 1". */
    private static void tenGoesFirst() {
        FontKit kit = Prep.kit(33);
        kit.fpgm = FontKit.prog(p(0), 44, 45, p(20000 - 4, 0), 42);
        HintHouse house = kit.house();
        Check.due("10 and 1", house.size(10), -110);
        Check.due("10 and 1: told(0)", house.told(0), 20000);
        Check.due("10 and 1: told(3)", house.told(3), 0);
        kit.prep = FontKit.prog(15);
        Check.due("10 and 3", kit.house().size(10), -110);
        kit.prep = new byte[0];
        Check.due("neither", kit.house().size(10), 20000);
        kit.fpgm = FontKit.prog(p(0), 44, 45, p(20000 - 5, 0), 42);
        kit.prep = FontKit.prog(33);
        Check.due("1 at the 20000th", kit.house().size(10), -101);
    }

    /** "11 a number is none that is told". */
    private static void numbersThatAreNone() {
        int[][] loops = {{-1, 0}, {0, 0}, {1, 1}, {2, 1}, {32767, 1}, {-32768, 0}};
        for (int[] pair : loops) {
            Check.due("LOOP " + pair[0], Prep.kit(p(pair[0]), 23).house().size(10), pair[1] == 1 ? 2 : -111);
        }
        Check.due("LOOP 65535", Prep.kit(FontKit.number(65535), 23).house().size(10) > 0 ? 1 : 0, 1);
        Check.due("LOOP 65536", Prep.kit(FontKit.number(65536), 23).house().size(10), -111);
        for (int shift = -1; shift <= 7; shift++) {
            Check.due("SHIFT " + shift, Prep.kit(p(shift), 95).house().size(10), shift >= 0 && shift <= 6 ? 2 : -111);
        }
        for (int code = 118; code <= 119; code++) {
            for (int n : p(0, 63, 64, 127, 128, 191, 192, 255, 256, 447, 448, -1, -64, -65)) {
                boolean none = (n >> 6 & 3) == 3;
                Check.due("code " + code + " of " + n, Prep.kit(p(n), code).house().size(10), none ? -111 : 2);
            }
        }
    }

    /** "when a program begins (also a PART'S) the STACK is empty, and they are (16384, 0) all three, 0, 1, 1, and 24". */
    private static void programsBegin() {
        byte[] change = FontKit.prog(p(5, 5), p(3), 16, p(3), 17, p(3), 18, p(0), 22, p(2), 23, 25, 0);
        byte[][] seen = {
            FontKit.prog(36), FontKit.prog(12), FontKit.prog(12, 33), FontKit.prog(13), FontKit.prog(13, 33),
            FontKit.prog(p(10), 104), FontKit.prog(p(40), 104)};
        int[] due = {0, 0, 16384, 0, 16384, 0, 64};
        for (int k = 0; k < seen.length; k++) {
            FontKit kit = Prep.kit(seen[k], p(9), 35, 66, change);
            kit.fpgm = change;
            kit.addSquare(seen[k], 133, change);
            kit.add(0, 0, FontKit.withProgram(FontKit.composed(0, FontKit.part(34, 1, 0, 0), FontKit.part(2 + 256, 1, 0, 0)), seen[k], 141));
            HintHouse house = kit.sized(10);
            Check.due("seen by prep, " + k, house.held(1, 9), due[k]);
            Check.due("make(1), " + k, house.make(1), 4);
            Check.due("seen by a glyph, " + k, house.told(7), due[k]);
            Check.due("make(2), " + k, house.make(2), 8);
            Check.due("seen by a whole, " + k, house.told(8), due[k]);
        }
        // D is as P: 74 tells x. RP0 is 0: 58 goes from point 0; RP1, RP2 are 0. ZP0, ZP1, ZP2 are 1. LOOP is 1.
        FontKit kit = Prep.kit(change);
        kit.addSquare(p(1, 0), 74, 133, change);
        kit.addSquare(p(0, 9), 56, p(2, 7), 58, change);
        kit.addSquare(p(0, 9), 56, p(2), 50, p(3), 51, change);
        kit.addSquare(p(9, 1, 3), 56, 36, 133, change);
        HintHouse house = kit.sized(10);
        house.make(1);
        Check.due("D lies along x", house.told(7), 320);
        house.make(2);
        Check.due("RP0 is 0", house.point(2, 0), 16);
        house.make(3);
        Check.due("RP2 is 0", house.point(2, 0), 329);
        Check.due("RP1 is 0", house.point(3, 0), 9);
        house.make(4);
        Check.due("LOOP is 1", house.told(7), 1);
        Check.due("LOOP is 1: one point", house.point(1, 0), 323);
        keptAtFirst();
    }

    /** "the KEPT ones: CUT 68, SINGLE 0, SINGLE CUT 0, LEAST 64, FLIP on, BASE 9, SHIFT 3, SCAN 0, SCAN KIND 0". */
    private static void keptAtFirst() {
        // 63 from 110: CVT 178 and 42 lie just 68 away, 179 and 41 do not.
        int[][] cuts = {{178, 192}, {179, 128}, {42, 64}, {41, 128}};
        for (int[] pair : cuts) {
            Triangle.moves("CUT 68 and CVT " + pair[0], 1, pair[1], 40, p(0, pair[0]), 68, p(1, 0), 63);
        }
        Triangle.moves("SINGLE CUT 0", 0, 10, 20, p(0), 192);
        Triangle.moves("SINGLE 0, SINGLE CUT 101", 1, 10, 40, p(101), 30, p(1), 192);
        Triangle.moves("LEAST 64: 63", 3, 74, 30, p(3, 73), 72, p(3), 200);
        Triangle.moves("LEAST 64: 100", 1, 110, 40, p(1), 200);
        Triangle.moves("FLIP on", 1, 60, 40, p(1, 1), 224);
        Triangle.moves("BASE 9, SHIFT 3", 1, 118, 40, p(0x18, 1, 1), 93);
        Triangle.gives("SCAN KIND 0", 0, p(0));
        HintHouse house = Triangle.made("SCAN", 1);
        Check.due("SCAN 0", house.told(7), 0);
        Check.due("SCAN KIND 0", house.told(8), 0);
    }
}

/** The edges that "6 PROGRAMS" names of codes that need no glyph: directions, rounding, branches, calls, deltas. */
public final class EdgesCodesTest {
    private static final int STEP = 8;

    public static void main(String[] args) {
        directions();
        lowest16Bits();
        vectorCodes();
        roundingOfAllNumbers();
        roundingAtItsEdges();
        oddAndEven();
        comparing();
        cutOff();
        downAndUp();
        information();
        branches();
        times();
        pushes();
        deltaSizes();
        deltaNumbers();
        deltaShifts();
        keptFromFpgmToPrep();
        asItIsOrScaled();
        Check.done();
    }

    private static int[] p(int... values) {
        return values;
    }

    /** "(16384, 0) if both are 0; else both are halved (cut off) until their sizes are at most 30000, then .. nearest". */
    private static void directions() {
        int[][] due = {{0, 0, 16384, 0}, {30000, 1, 16384, 1}, {30001, 1, 16384, 0}, {30001, 3, 16384, 1}, {1, 30000, 1, 16384},
            {1, 30001, 0, 16384}, {3, 30001, 1, 16384}, {-30000, 1, -16384, 1}, {-30001, 1, -16384, 0}, {-30001, -3, -16384, -1},
            {-3, -30001, -1, -16384}, {3, -30001, 1, -16384}, {1, -30000, 1, -16384}, {1, -30001, 0, -16384},
            {32767, -32768, 11585, -11586}, {-32768, 32767, -11586, 11585}, {-32768, -32768, -11585, -11585},
            {0, -5, 0, -16384}, {-5, 0, -16384, 0}, {0, 1, 0, 16384}, {1, 0, 16384, 0}, {5, 12, 6302, 15124}, {-7, 24, -4588, 15729},
            {1, 2, 7327, 14654}, {2, -1, 14654, -7327}};
        for (int[] row : due) {
            String what = "the DIRECTION of " + row[0] + ", " + row[1];
            HintHouse house = Prep.ran(what, p(row[0], row[1]), 10, p(row[0], row[1]), 11, 12, stored(1), stored(0), 13, stored(3), stored(2));
            for (int k = 0; k < 4; k++) {
                Check.due(what + " by " + (10 + k / 2), house.held(1, k), row[2 + k % 2]);
            }
            HintHouse behind = Prep.ran(what, p(3, -4), 10, p(-3, 4), 11, p(row[0], row[1]), 10, 12, stored(1), stored(0), p(0, -9), 10,
                p(row[0], row[1]), 11, 13, stored(3), stored(2));
            for (int k = 0; k < 4; k++) {
                Check.due(what + " by " + (10 + k / 2) + ", behind another one", behind.held(1, k), row[2 + k % 2]);
            }
            // D is as P: 71 of x, y tells it.
            HintHouse d = Prep.ran(what, p(0), 22, p(1), FontKit.number(16384), 72, p(row[0], row[1]), 10, p(1), 71, stored(0));
            Check.due(what + ": D", d.held(1, 0), row[2]);
        }
    }

    /** Takes the top of the STACK into STORAGE i. */
    private static byte[] stored(int i) {
        return FontKit.prog(p(i), 35, 66);
    }

    /** "the DIRECTION of the S2s that the lowest 16 bits are". */
    private static void lowest16Bits() {
        int[][] due = {{65536 + 3, 4, 9830, 13107}, {65533, 4, -9830, 13107}, {3, 65532, 9830, -13107}, {65536, 65536, 16384, 0},
            {32768, 0, -16384, 0}, {0x7fff0000, 5, 0, 16384}, {Integer.MIN_VALUE, -1, 0, -16384}};
        for (int[] row : due) {
            String what = row[0] + ", " + row[1];
            HintHouse house = Prep.ran(what, FontKit.number(row[0]), FontKit.number(row[1]), 10, 12, stored(1), stored(0),
                FontKit.number(row[0]), FontKit.number(row[1]), 11, 13, stored(3), stored(2));
            for (int k = 0; k < 4; k++) {
                Check.due(what + " by " + (10 + k / 2), house.held(1, k), row[2 + k % 2]);
            }
        }
    }

    /** "0, 1: F, P, D are (0, 16384), (16384, 0). 2, 3: P and D. 4, 5: F. 14: F is P." */
    private static void vectorCodes() {
        for (int code = 0; code < 6; code++) {
            for (int before = 0; before < 2; before++) {
                int way = code % 2 == 0 ? 16384 : 0;
                int was = before == 0 ? 16384 : 0;
                int f = code < 2 || code > 3 ? way : was;
                int pd = code < 4 ? way : was;
                HintHouse house = Prep.ran("code " + code, before, code, 13, stored(1), stored(0), 12, stored(3), stored(2),
                    p(0), 22, FontKit.prog(14, 13, stored(5), stored(4)));
                Check.due("code " + code + " behind " + before + ": Fy", house.held(1, 1), f);
                Check.due("code " + code + " behind " + before + ": Fx", house.held(1, 0), 16384 - f);
                Check.due("code " + code + " behind " + before + ": Py", house.held(1, 3), pd);
                Check.due("code " + code + " behind " + before + ": Px", house.held(1, 2), 16384 - pd);
                Check.due("code " + code + ", then 14: Fy", house.held(1, 5), pd);
                Check.due("code " + code + ", then 14: Fx", house.held(1, 4), 16384 - pd);
                HintHouse d = Prep.ran("D by " + code, p(0), 22, 1, p(1, 30), 72, 0, p(1, 50), 72, before, code, p(1), 71, stored(0));
                Check.due("code " + code + " behind " + before + ": D", d.held(1, 0), pd == 0 ? 30 : 50);
            }
        }
    }

    /** As the document tells it, with whole numbers. */
    private static long rounded(long v, int period, int phase, int threshold) {
        if (v < 0) {
            return -rounded(-v, period, phase, threshold);
        }
        long sum = v - phase + threshold;
        long down = sum - ((sum % period) + period) % period;
        return down + phase < 0 ? phase : down + phase;
    }

    /** "118: PERIOD 32, 64, 128 by n's bits 6 and 7; PHASE ... by bits 4, 5 (cut off); by the lowest four k ... 119: 22, 45, 90". */
    private static void roundingOfAllNumbers() {
        int[][] periods = {{32, 64, 128}, {22, 45, 90}};
        int[] values = {0, 1, 5, 11, 16, 17, 31, 32, 45, 48, 63, 64, 77, 96, 127, 128, 200, -1, -11, -16, -33, -45, -64, -90, -129, 1000, -1000};
        for (int code = 118; code <= 119; code++) {
            for (int n = 0; n < 192; n++) {
                int period = periods[code - 118][n / 64];
                int phase = n / 16 % 4 * period / 4;
                int k = n % 16;
                int threshold = k == 0 ? period - 1 : k >= 4 ? (k - 4) * period / 8 : -((4 - k) * period / 8);
                for (int from = 0; from < values.length; from += STEP) {
                    rounds(code, n, values, from, period, phase, threshold);
                }
            }
        }
    }

    private static void rounds(int code, int n, int[] values, int from, int period, int phase, int threshold) {
        FontKit.Out program = new FontKit.Out().raw(FontKit.prog(p(n), code));
        int to = Math.min(from + STEP, values.length);
        for (int i = from; i < to; i++) {
            program.raw(FontKit.prog(p(values[i]), 104 + i % 4, stored(i - from)));
        }
        HintHouse house = Prep.ran("code " + code + " of " + n, program.done());
        for (int i = from; i < to; i++) {
            Check.due(values[i] + " ROUNDED by " + code + " of " + n, house.held(1, i - from), rounded(values[i], period, phase, threshold));
        }
    }

    /** "24: 64, 0, 32; 25: 64, 32, 32; 61: 32, 0, 16; 125: 64, 0, 0; 124: 64, 0, 63; 122: v itself." */
    private static void roundingAtItsEdges() {
        int[][] kinds = {{24, 64, 0, 32}, {25, 64, 32, 32}, {61, 32, 0, 16}, {125, 64, 0, 0}, {124, 64, 0, 63}, {122, 1, 0, 0}};
        for (int[] kind : kinds) {
            for (int v = -130; v <= 130; v += 13) {
                for (int by = -1; by <= 1; by++) {
                    int near = (v / 16) * 16 + by;
                    Prep.gives(near + " by " + kind[0], rounded(near, kind[1], kind[2], kind[3]), kind[0], p(near), 104);
                }
            }
            // Each one sets all three numbers, whatever was set before.
            Prep.gives("1 by " + kind[0] + " behind 118", rounded(1, kind[1], kind[2], kind[3]), p(0xbf), 118, kind[0], p(1), 104);
            Prep.gives("1 by " + kind[0] + " behind 122", rounded(1, kind[1], kind[2], kind[3]), 122, kind[0], p(1), 104);
        }
        // "PHASE, if that is below 0": 64, 32, -24: 55 and less come to -32, and so to 32.
        for (int v = 0; v <= 130; v++) {
            if (v % 8 > 6 || v % 8 == 0) {
                Prep.gives(v + " by 0x61", v < 120 ? 32 : 96, p(0x61), 118, p(v), 104);
                Prep.gives(-v + " by 0x61", v == 0 ? 32 : v < 120 ? -32 : -96, p(0x61), 118, p(-v), 104);
            }
        }
    }

    /** "86, 87 (v - b): whether ROUNDED v and 127 is 64; 0." */
    private static void oddAndEven() {
        int[] values = {0, 1, 62, 63, 64, 65, 126, 127, 128, 129, 191, 192, 193, 255, 256, -1, -63, -64, -65, -127, -128, -129, -192, 16448, 16384};
        for (int v : values) {
            int low = v & 127;
            Prep.gives("86 of " + v, low == 64 ? 1 : 0, 122, p(v), 86);
            Prep.gives("87 of " + v, low == 0 ? 1 : 0, 122, p(v), 87);
        }
        int[][] grid = {{31, 0, 1}, {32, 1, 0}, {95, 1, 0}, {96, 0, 1}, {-31, 0, 1}, {-32, 1, 0}, {-95, 1, 0}, {-96, 0, 1}};
        for (int[] row : grid) {
            Prep.gives("86 of " + row[0] + " by 24", row[1], p(row[0]), 86);
            Prep.gives("87 of " + row[0] + " by 24", row[2], p(row[0]), 87);
        }
    }

    /** "below, not above, above, not below, the same, not the same"; "and, or, not, of being not 0". */
    private static void comparing() {
        int[][] pairs = {{-1, 0}, {0, 0}, {1, 0}, {1, 1}, {1, 2}, {2, 1}, {-2, -1}, {-1, -1}, {-1, 1}, {-32768, 32767}};
        for (int[] pair : pairs) {
            int a = pair[0];
            int b = pair[1];
            boolean[] due = {a < b, a <= b, a > b, a >= b, a == b, a != b};
            for (int k = 0; k < 6; k++) {
                Prep.gives(a + ", " + b + " by " + (80 + k), due[k] ? 1 : 0, p(a, b), 80 + k);
            }
            Prep.gives(a + ", " + b + " by 90", a != 0 && b != 0 ? 1 : 0, p(a, b), 90);
            Prep.gives(a + ", " + b + " by 91", a != 0 || b != 0 ? 1 : 0, p(a, b), 91);
            Prep.gives(b + ", " + a + " by 90", a != 0 && b != 0 ? 1 : 0, p(b, a), 90);
            Prep.gives(b + ", " + a + " by 91", a != 0 || b != 0 ? 1 : 0, p(b, a), 91);
            Prep.gives(a + " by 92", a == 0 ? 1 : 0, p(a), 92);
            Prep.gives(a + ", " + b + " by 139", Math.max(a, b), p(a, b), 139);
            Prep.gives(a + ", " + b + " by 140", Math.min(a, b), p(a, b), 140);
        }
        Prep.gives("0, 0 by 91", 0, p(0, 0), 91);
    }

    /** "a 64 / b (cut off)". */
    private static void cutOff() {
        int[][] pairs = {{1, 65}, {-1, 65}, {1, -65}, {-1, -65}, {1, 64}, {1, 63}, {-1, 63}, {5, 3}, {-5, 3}, {5, -3}, {-5, -3}, {0, 7}, {7, 1}};
        for (int[] pair : pairs) {
            Prep.gives(pair[0] + " by " + pair[1], pair[0] * 64 / pair[1], p(pair[0], pair[1]), 98);
        }
        Prep.gives("-5 64 / 3 is cut off", -106, p(-5, 3), 98);
    }

    /** "size; -a; down, up to a multiple of 64". */
    private static void downAndUp() {
        int[][] due = {{0, 0, 0}, {1, 0, 64}, {63, 0, 64}, {64, 64, 64}, {65, 64, 128}, {-1, -64, 0}, {-63, -64, 0}, {-64, -64, -64}, {-65, -128, -64}};
        for (int[] row : due) {
            Prep.gives(row[0] + " down", row[1], p(row[0]), 102);
            Prep.gives(row[0] + " up", row[2], p(row[0]), 103);
            Prep.gives("the size of " + row[0], Math.abs(row[0]), p(row[0]), 100);
            Prep.gives("- " + row[0], -row[0], p(row[0]), 101);
        }
    }

    /** "136 (n - v): 35 with bit 1 of n, else 0", "75, 76 (- PPEM)". */
    private static void information() {
        int[][] due = {{0, 0}, {1, 35}, {2, 0}, {3, 35}, {-1, 35}, {-2, 0}, {32766, 0}, {32767, 35}};
        for (int[] pair : due) {
            Prep.gives("136 of " + pair[0], pair[1], p(pair[0]), 136);
        }
        for (int ppem : p(4, 48)) {
            HintHouse house = Prep.kit(75, stored(0), 76, stored(1)).house();
            house.size(ppem);
            Check.due("75 at " + ppem, house.held(1, 0), ppem);
            Check.due("76 at " + ppem, house.held(1, 1), ppem);
        }
    }

    /** "88 (b -): with 0 passes over to behind its 27, or 89. 27: passes over to behind the 89 of its IF." */
    private static void branches() {
        for (int b : p(0, 1, -1, 2, 256, -32768)) {
            Prep.gives("IF of " + b, b != 0 ? 5 : 6, p(b), 88, p(5), 27, p(6), 89);
            Prep.gives("IF of " + b + " without ELSE", b != 0 ? 5 : 4, p(4), p(b), 88, p(5), 89);
            Prep.gives("IF of " + b + " within", b != 0 ? 7 : 4, p(4), p(1), 88, p(b), 88, p(7), 89, 27, p(8), 89);
            Prep.gives("IF of " + b + " within ELSE", b != 0 ? 7 : 8, p(0), 88, p(9), 27, p(b), 88, p(7), 27, p(8), 89, 89);
        }
        // The 27 of an IF within is not its own; a second 27 of its own is passed, too.
        Prep.gives("the 27 within", 3, p(0), 88, 88, p(1), 27, p(2), 89, 27, p(3), 89);
        Prep.gives("a second 27", 3, p(3), p(1), 88, 27, p(1), 27, p(2), 89);
        Prep.gives("a second 27, done", 5, p(0), 88, p(1), 27, p(5), 27, p(2), 89);
        Prep.gives("89 alone", 3, p(3), 89, 89);
        for (int code : p(24, 25, 61, 122, 124, 125)) {
            Prep.gives("89 leaves ROUNDING " + code, rounded(1, code == 122 ? 1 : code == 61 ? 32 : 64, code == 25 ? 32 : 0,
                code == 124 ? 63 : code == 61 ? 16 : code == 122 || code == 125 ? 0 : 32), code, p(1), 88, 89, p(1), 104);
        }
        // A FUNCTION in an IF that is passed over does not come to be.
        Prep.fails("no FUNCTION", 6, 15, p(0), 88, p(0), 44, 89, p(0), 43);
        Prep.gives("OWN CODE 255 in an IF", 9, p(1), 88, p(255), 137, 45, 89, p(9));
    }

    /** "42 (n f -): n times (below 1: not, but 6 is asked)". */
    private static void times() {
        byte[] count = FontKit.prog(p(0), 44, p(0), 67, p(1), 96, p(0), 35, 66, 45);
        int[][] due = {{-32768, 0}, {-1, 0}, {0, 0}, {1, 1}, {2, 2}, {3, 3}, {100, 100}};
        for (int[] pair : due) {
            HintHouse house = Prep.ran(pair[0] + " times", count, p(pair[0], 0), 42);
            Check.due(pair[0] + " times", house.held(1, 0), pair[1]);
        }
        Check.due("43: once", Prep.ran("43", count, p(0), 43).held(1, 0), 1);
        Check.due("the least times", Prep.ran("42", count, FontKit.number(Integer.MIN_VALUE), p(0), 42).held(1, 0), 0);
        Check.due("the greatest times", Prep.kit(count, FontKit.number(Integer.MAX_VALUE), p(0), 42).house().size(10), -110);
        // Three times two: the inner one is counted for itself.
        HintHouse nested = Prep.ran("three times two", count, p(1), 44, p(2, 0), 42, 45, p(3, 1), 42);
        Check.due("three times two", nested.held(1, 0), 6);
        HintHouse own = Prep.ran("an OWN CODE", count, p(150), 137, p(2, 0), 42, 45, 150, 150);
        Check.due("an OWN CODE is done once each time", own.held(1, 0), 4);
        // "again: instead": the FUNCTION that is noted last counts.
        HintHouse again = Prep.ran("again", count, p(0), 44, p(0, 50), 66, 45, p(0), 43);
        Check.due("noted again", again.held(1, 0), 50);
        // A FUNCTION of fpgm is done from prep, and then goes on behind the call there.
        FontKit kit = Prep.kit(p(0), 43, p(1, 5), 66, p(2), 28, 33, p(2, 6), 66);
        kit.fpgm = FontKit.prog(1, 1, 1, count);
        HintHouse back = kit.sized(10);
        Check.due("back in prep", back.held(1, 1), 5);
        Check.due("a jump by prep's own places", back.held(1, 2), 6);
        // Behind a FUNCTION of fpgm the places are prep's again: for a FAILURE, and for a jump out of it.
        kit.prep = FontKit.prog(p(0), 43, 1, 33);
        Prep.failsIn("a FAILURE behind a FUNCTION", kit, 1, 6);
        kit.prep = FontKit.prog(p(0), 43, p(-10), 28);
        Prep.failsIn("a jump before prep's begin behind a FUNCTION", kit, 8, 9);
        kit.prep = FontKit.prog(p(0), 43, p(2), 28);
        Prep.failsIn("a jump behind prep's end behind a FUNCTION", kit, 8, 9);
        kit.prep = FontKit.prog(p(0), 43, p(1), 28);
        Check.due("a jump to prep's end behind a FUNCTION", kit.house().size(10) > 0 ? 1 : 0, 1);
    }

    /** "176 .. 183: 1 .. 8 U1s; 184 .. 191: S2s", "64: n (U1) and n U1s behind ... 65: n S2s": in order, with their signs. */
    private static void pushes() {
        for (int n = 1; n <= 8; n++) {
            byte[] u1 = new byte[n];
            byte[] s2 = new byte[2 * n];
            for (int k = 0; k < n; k++) {
                u1[k] = (byte) (250 + k);
                s2[2 * k] = (byte) (127 + k % 2);
                s2[2 * k + 1] = (byte) (250 + k);
            }
            Object[][] programs = {{175 + n, u1}, {64, n, u1}, {183 + n, s2}, {65, n, s2}};
            for (int k = 0; k < 4; k++) {
                FontKit.Out program = new FontKit.Out().raw(FontKit.prog(programs[k]));
                for (int i = n - 1; i >= 0; i--) {
                    program.raw(stored(i));
                }
                HintHouse house = Prep.ran("pushes of " + n, program.done(), 36, stored(9));
                for (int i = 0; i < n; i++) {
                    int due = k < 2 ? 250 + i & 255 : (short) ((127 + i % 2 << 8) + (250 + i & 255));
                    Check.due("number " + i + " of " + n + " by kind " + k, house.held(1, i), due);
                }
                Check.due("none is left", house.held(1, 9), 0);
            }
        }
    }

    /** "if PPEM is BASE and v's bits 4 .. 7, and 0, 16, 32 by the code". */
    private static void deltaSizes() {
        for (int code = 115; code <= 117; code++) {
            int more = 16 * (code - 115);
            for (int ppem : p(4, 9, 10, 24, 25, 26, 40, 41, 42, 48)) {
                for (int high : p(0, 1, 15)) {
                    HintHouse house = Prep.kit(p(16 * high + 8, 0, 1), code, p(1, 0), 68).house();
                    Check.due("size(" + ppem + ")", house.size(ppem), 4);
                    int grown = ppem == 9 + high + more ? 8 : 0;
                    Check.due("code " + code + ", " + high + " at " + ppem, house.held(0, 0), ppem * 10 + grown);
                }
            }
        }
        // BASE of its own, below 0, too; other bits of v count for nothing.
        HintHouse low = Prep.ran("BASE -5", p(-5), 94, p(0xf8, 0, 1), 115);
        Check.due("BASE -5 and 15", low.held(0, 0), 108);
        HintHouse ten = Prep.ran("BASE 10", p(10), 94, p(0x108, 0, 0x7f08, 1, 2), 115);
        Check.due("BASE 10 and bits above 7", ten.held(0, 0), 108);
        Check.due("BASE 10 and other bits above 7", ten.held(0, 1), -42);
        HintHouse signed = Prep.ran("v below 0", p(-5), 94, p(-8, 0, 1), 115);
        Check.due("v of -8 is 15 and 8", signed.held(0, 0), 108);
        HintHouse far = Prep.ran("BASE the greatest", FontKit.number(Integer.MAX_VALUE), 94, p(0xb8, 0, 1), 115);
        Check.due("BASE the greatest", far.held(0, 0), 100);
    }

    /** "m is its lowest four less 8 (less 7 from 8 on)"; "(else p, i are not looked at)". */
    private static void deltaNumbers() {
        for (int low = 0; low < 16; low++) {
            HintHouse house = Prep.ran("lowest four", p(6), 95, p(16 + low, 0, 1), 115);
            Check.due("lowest four of " + low, house.held(0, 0), 100 + (low < 8 ? low - 8 : low - 7));
        }
        for (int i : p(-1, 3, 32767)) {
            Prep.fails("CVT " + i, 6, 8, p(0x18, i, 1), 115);
            Prep.gives("CVT " + i + " at another size", 5, p(0x28, i, 1), 115, p(5));
        }
        for (int i : p(-1, 4, 32767)) {
            Prep.fails("point " + i, 5, 13, p(0), 22, p(0x18, i, 1), 93);
            Prep.gives("point " + i + " at another size", 5, p(0), 22, p(0x28, i, 1), 93, p(5));
        }
        // The pairs are taken from the top on; the same CVT twice grows twice.
        HintHouse both = Prep.ran("two pairs", p(0x1f, 0, 0x18, 1, 0x10, 0, 3), 115);
        Check.due("CVT 0 by 8 and -8", both.held(0, 0), 100);
        Check.due("CVT 1 by 1", both.held(0, 1), -42);
        Prep.fails("the lower pair has no CVT", 6, 12, p(0x18, 9, 0x18, 0, 2), 115);
    }

    /** "times 2^(6 - SHIFT)". */
    private static void deltaShifts() {
        for (int shift = 0; shift <= 6; shift++) {
            HintHouse house = Prep.ran("SHIFT " + shift, p(shift), 95, p(0x18, 0, 1), 115, p(0x10, 1, 1), 115);
            Check.due("SHIFT " + shift, house.held(0, 0), 100 + (64 >> shift));
            Check.due("SHIFT " + shift + ", -8", house.held(0, 1), -50 - (512 >> shift));
        }
    }

    /** "68 (i v -), 112 (i v -): CVT i is v; v SCALED", "31 (v -): SINGLE is v SCALED", all others as they are. */
    private static void asItIsOrScaled() {
        HintHouse house = Prep.kit(p(0, 7), 68, p(1, 7), 112, p(0, 7), 66, p(0), 22, p(1, 7), 72, p(2, 7), 56, p(3, 7), 58).house();
        house.size(20);
        Check.due("68 at 20", house.held(0, 0), 7);
        Check.due("112 at 20", house.held(0, 1), 14);
        Check.due("CVT 2 at 20", house.held(0, 2), 128);
        Check.due("66 at 20", house.held(1, 0), 7);
        for (int i = 1; i <= 3; i++) {
            Check.due("TWILIGHT point " + i + " at 20", house.held(2, i), 7);
        }
    }

    /** "(prep begins with those)": what fpgm left of the KEPT settings. */
    private static void keptFromFpgmToPrep() {
        FontKit kit = Prep.kit(p(0x18, 0, 1), 115);
        kit.fpgm = FontKit.prog(p(5), 95, p(10), 94, p(3), 133, p(4), 141);
        HintHouse house = kit.sized(10);
        Check.due("BASE 10: 0x18 is for 11", house.held(0, 0), 100);
        Check.due("SCAN", house.told(7), 3);
        Check.due("SCAN KIND", house.told(8), 4);
        house.size(11);
        Check.due("SHIFT 5 at 11", house.held(0, 0), 112);
    }
}

/**
 * "LONG of x, y by a vector V", "TO MOVE a point by d", "A point's zone stands behind it": each code with F, P and D that
 * differ, with points that have left their ORIGINAL, and with a zone of its own for each point that it looks at.
 */
public final class EdgesVectorsTest {
    /** All zones are 1 behind it, P is (0, 16384), D is (16384, 0), F is (0, 16384). */
    private static final byte[] APART = FontKit.prog(p(0), 22, 1, p(3, 100), 72, p(3, -100), 56, 0, p(3, 100), 56, p(3, 0), 134, 4, p(1), 22);
    /** Point 1 goes from 110, 40 to 117, 51; all vectors lie along x behind it. */
    private static final byte[] GONE = FontKit.prog(1, p(1, 7), 56, 0, p(1, 11), 56, 1);

    public static void main(String[] args) {
        longsByPAndD();
        movedByP();
        measuredByD();
        interpolatedByBoth();
        alongF();
        fIsP();
        differencesInY();
        directionsOfLines();
        directionsOfZones();
        plantedAlongF();
        plantedFromTheGlyph();
        leastOfRounded();
        leastBySign();
        zonesOfEach();
        manyPointsBetween();
        Check.done();
    }

    private static int[] p(int... values) {
        return values;
    }

    /** "70, 71 (p/2 - v): its LONG; of ORIGINAL, by D", "73, 74 ...: the LONG of p less q; 74: of ORIGINAL, by D". */
    private static void longsByPAndD() {
        Triangle.gives("70", 51, GONE, APART, p(1), 70);
        Triangle.gives("71", 110, GONE, APART, p(1), 71);
        Triangle.gives("73 of 1 less 0", 31, GONE, APART, p(1, 0), 73);
        Triangle.gives("73 of 0 less 1", -31, GONE, APART, p(0, 1), 73);
        Triangle.gives("74 of 1 less 0", 100, GONE, APART, p(1, 0), 74);
        Triangle.gives("74 of 0 less 1", -100, GONE, APART, p(0, 1), 74);
    }

    private static void moves(String what, int i, int x, int y, Object... program) {
        Triangle.moves(what, i, x, y, GONE, APART, FontKit.prog(program));
    }

    /** "Where nothing else is told a point's LONG is of CURRENT, by P". */
    private static void movedByP() {
        moves("46", 1, 117, 51, p(1), 46);
        moves("47: 51 to 64", 1, 117, 64, p(1), 47);
        moves("72 to 10", 1, 117, 10, p(1, 10), 72);
        moves("62 to 100", 1, 117, 100, p(1, 0), 62);
        moves("63: 51 and 64 differ by 13", 1, 117, 64, p(1, 2), 63);
        moves("63: 51 and 130 differ by 79", 1, 117, 51, 122, p(1, 3), 63);
        moves("50 by 11", 2, 70, 211, p(1), 18, p(2), 50);
        moves("51 by 11", 2, 70, 211, p(1), 17, p(2), 51);
        moves("52 by 11", 2, 70, 211, p(1), 18, p(0), 52);
        moves("55 by 11", 3, 30, 41, p(1), 17, p(1), 55);
        moves("39: p by half of -31", 1, 117, 36, p(1, 0), 39);
        moves("39: q by half of 31", 0, 10, 35, p(1, 0), 39);
        moves("60 to 51", 2, 70, 51, p(1), 16, p(2), 60);
        moves("58 to 51 and 5", 2, 70, 56, p(1), 16, p(2, 5), 58);
        moves("59 to 51 and 5", 2, 70, 56, p(1), 16, p(2, 5), 59);
        moves("93 by 8", 1, 117, 59, p(0x18, 1, 1), 93);
    }

    /** "d is the LONG by D of ORIGINAL p less RP0/0": 100, and its LONG by P is as much then. */
    private static void measuredByD() {
        moves("192", 1, 117, 120, p(1), 192);
        moves("196: ROUNDED", 1, 117, 148, p(1), 196);
        moves("192 from 1: -40", 2, 70, 11, p(1), 16, p(2), 192);
        moves("224: CVT 130", 1, 117, 150, p(1, 3), 224);
        moves("228: 130 and 100 differ by 30", 1, 117, 150, 122, p(30), 29, p(1, 3), 228);
        moves("228: more than 29", 1, 117, 120, 122, p(29), 29, p(1, 3), 228);
        moves("224: d is above 0, FLIP", 1, 117, 70, p(1, 1), 224);
        moves("224: d is below 0, FLIP", 2, 70, 51 - 130, p(1), 16, p(2, 3), 224);
    }

    /** "o the LONG by D of ORIGINAL ..., t ... so, c ... (CURRENT)": 60 times 31 / 100 is 18.6. */
    private static void interpolatedByBoth() {
        moves("57", 2, 70, 39, p(0), 17, p(1), 18, p(2), 57);
        // From 1: o is -40, t is -100, c is -31: 12.4 less than 51.
        moves("57 from 1", 2, 70, 39, p(1), 17, p(0), 18, p(2), 57);
    }

    /** "q is (Fx Px + Fy Py) OVER 16384": 13107 of F 9830, 13107. */
    private static void alongF() {
        moves("72 along 3, 4", 1, 117 + 983, 51 + 1311, p(3, 4), 11, p(1, 51 + 1311), 72);
        moves("72 along -3, 4", 1, 117 - 983, 51 + 1311, p(-3, 4), 11, p(1, 51 + 1311), 72);
        moves("72 along 3, -4", 1, 117 - 983, 51 + 1311, p(3, -4), 11, p(1, 51 + 1311), 72);
        moves("72 along x, across P", 1, 117 + 20, 51, 5, p(1, 71), 72);
    }

    /** "14: F is P". */
    private static void fIsP() {
        Triangle.gives("14: Fy", 16384, APART, 5, 14, 13);
        Triangle.gives("14: Fx", 0, APART, 5, 14, 13, 33);
    }

    /** ORIGINAL and CURRENT y, of both points. */
    private static void differencesInY() {
        Triangle.gives("73 of 1 less 0 in y", 31, GONE, 0, p(1, 0), 73);
        Triangle.gives("73 of 0 less 1 in y", -31, GONE, 0, p(0, 1), 73);
        Triangle.gives("74 of 1 less 0 in y", 20, GONE, 0, p(1, 0), 74);
        Triangle.gives("74 of 0 less 1 in y", -20, GONE, 0, p(0, 1), 74);
        Triangle.moves("47 in y", 1, 117, 64, GONE, 0, p(1), 47);
        Triangle.moves("63 in y", 1, 117, 51, GONE, 0, 122, p(1, 3), 63);
        Triangle.moves("60 in y", 2, 70, 51, GONE, 0, p(1), 16, p(2), 60);
        Triangle.moves("192 in y", 2, 70, 51 + 160, GONE, 0, p(1), 16, p(2), 192);
    }

    private static int share(int v, int x, int y) {
        return (int) Math.round(v * 16384 / Math.sqrt((double) x * x + (double) y * y));
    }

    /** P and F by codes 6 .. 9 and 134, 135, then D, each with its sign, from lines that have moved. */
    private static void lines(String what, byte[] before, int[] pair, int[] current, int[] original) {
        for (int code : p(6, 7, 8, 9, 134, 135)) {
            boolean left = code % 2 == 1;
            int read = code == 8 || code == 9 ? 13 : 12;
            int x = share(current[0], current[0], current[1]);
            int y = share(current[1], current[0], current[1]);
            Triangle.gives(what + ": x by " + code, left ? -y : x, before, pair, code, read, 33);
            Triangle.gives(what + ": y by " + code, left ? x : y, before, pair, code, read);
            if (code > 133) {
                int dx = share(original[0], original[0], original[1]);
                int dy = share(original[1], original[0], original[1]);
                byte[] plant = FontKit.prog(1, p(0), 21, p(1, 16384), 72, 0, p(2, 16384), 72, 1, p(1), 21);
                Triangle.gives(what + ": Dx by " + code, left ? -dy : dx, plant, before, pair, code, p(0), 21, p(1), 71);
                Triangle.gives(what + ": Dy by " + code, left ? dx : dy, plant, before, pair, code, p(0), 21, p(2), 71);
            }
        }
    }

    /** "the DIRECTION of p less q (CURRENT)", "D is the DIRECTION of ORIGINAL p less q, P that of CURRENT". */
    private static void directionsOfLines() {
        lines("1 less 0", GONE, p(1, 0), p(107, 31), p(100, 20));
        lines("0 less 1", GONE, p(0, 1), p(-107, -31), p(-100, -20));
    }

    /** "(p/1 q/2 -)": TWILIGHT point 3 is at 100, 0, and went to 0, 100. */
    private static void directionsOfZones() {
        byte[] first = FontKit.prog(GONE, APART, 1, p(0), 20);
        byte[] second = FontKit.prog(GONE, APART, 1, p(0), 21);
        lines("TWILIGHT 3 less 1", first, p(3, 1), p(-117, 49), p(-10, -40));
        lines("1 less TWILIGHT 3", second, p(1, 3), p(117, -49), p(10, 40));
    }

    private static void held(String what, HintHouse house, int i, int... due) {
        for (int kind = 2; kind <= 5; kind++) {
            Check.due(what + ": held(" + kind + ", " + i + ")", house.held(kind, i), due[kind - 2]);
        }
    }

    /** "by 58, 59 that of RP0/0 and d Fx OVER 16384, d Fy OVER 16384; ...", ORIGINAL of RP0: by F alone, whatever P and D are. */
    private static void plantedAlongF() {
        // RP0 is point 2, ORIGINAL 7, 9, CURRENT 12, 20. F is along 3, 4, P along x, D along y.
        byte[] set = FontKit.prog(p(0), 22, 1, p(2, 7), 72, 0, p(2, 9), 72, p(2, 11), 56, 1, p(2, 5), 56,
            0, p(3, 100), 72, p(3, -100), 56, 1, p(3, 100), 56, p(3, 0), 134, p(3, 4), 11, p(2), 16, 122);
        // 100 along F is 60, 80: from there 45 more along x take it 60 up.
        held("58", Prep.ran("58", set, p(1, 100), 58), 1, 112, 149, 67, 89);
        held("59", Prep.ran("59", set, p(1, 100), 59), 1, 112, 149, 67, 89);
        held("224", Prep.ran("224", set, p(1, 0), 224), 1, 112, 149, 67, 89);
        held("62", Prep.ran("62", set, p(1, 0), 62), 1, 100, 133, 60, 80);
        held("63", Prep.ran("63", set, p(1, 0), 63), 1, 100, 133, 60, 80);
        // By 228 d is 80 (by D, in y): 20 away from 100, so that within a CUT of 19 it is 80 from 12 on.
        held("228, CUT 19", Prep.ran("228", set, p(19), 29, p(1, 0), 228), 1, 92, 122, 67, 89);
        held("228, CUT 20", Prep.ran("228", set, p(20), 29, p(1, 0), 228), 1, 112, 149, 67, 89);
    }

    /** RP0 is a point of the glyph, p a TWILIGHT one. */
    private static void plantedFromTheGlyph() {
        Object[][] codes = {{p(2, -50), 58}, {p(2, -50), 59}, {p(2, 1), 224}, {p(2, 1), 225}};
        for (Object[] row : codes) {
            byte[] planted = FontKit.prog(GONE, p(0), 20, p(1), 16, FontKit.prog(row), p(0), 21);
            String what = "code " + row[1] + " from a glyph's point";
            Triangle.gives(what + ": ORIGINAL x", 60, planted, p(2), 71);
            Triangle.gives(what + ": ORIGINAL y", 40, planted, 0, p(2), 71);
            Triangle.gives(what + ": CURRENT x", 67, planted, p(2), 70);
            Triangle.gives(what + ": CURRENT y", 40, planted, 0, p(2), 70);
        }
    }

    /** "e is d, with bit 4 ROUNDED; with bit 8 and d from 0 on at least LEAST, below 0 at most -LEAST": of what is ROUNDED. */
    private static void leastOfRounded() {
        int[][] due = {{100, 128}, {95, 64}, {-100, -128}, {-95, -64}, {30, 64}, {-30, -64}};
        for (int[] pair : due) {
            HintHouse house = Prep.ran("204", p(0), 22, p(1, pair[0]), 72, p(1), 204);
            Check.due("204 of " + pair[0], house.held(2, 1), pair[1]);
            HintHouse byCvt = Prep.ran("236", p(0), 22, p(0, pair[0]), 68, p(1, 0), 236);
            Check.due("236 of " + pair[0], byCvt.held(2, 1), pair[1]);
        }
    }

    /** Bit 8 goes by the sign of d, not of e: FLIP is off. */
    private static void leastBySign() {
        int[][] due = {{50, 30, 64}, {50, -30, 64}, {-50, 30, -64}, {-50, -30, -64}, {50, 99, 99}, {50, -99, 64}, {-50, 99, -64}, {-50, -99, -99}, {0, -99, 64}};
        for (int[] row : due) {
            FontKit kit = new FontKit().addEmpty();
            kit.cvt = FontKit.words(row[1]);
            kit.add(0, 0, FontKit.simple(0, FontKit.prog(78, p(1, 0), 232), p(200, 0, 1, 200 + row[0], 0, 1)));
            HintHouse house = kit.sized(10);
            house.make(1);
            Check.due("d " + row[0] + ", e " + row[1], house.point(1, 0), 200 + row[2]);
        }
    }

    /** Of six points of the glyph and four TWILIGHT ones 5 is there in zone 1 alone: so it is seen where each one is looked for. */
    private static void zonesOfEach() {
        // The code, what it takes (5 stands for p), its RP (16 .. 18, or 0 for p), the code of that one's zone.
        Object[][] codes = {{41, p(5), 0, 19}, {46, p(5), 0, 19}, {47, p(5), 0, 19}, {62, p(5, 0), 0, 19}, {63, p(5, 0), 0, 19}, {56, p(5, 0), 0, 21},
            {70, p(5), 0, 21}, {71, p(5), 0, 21}, {72, p(5, 0), 0, 21}, {50, p(5), 0, 21}, {51, p(5), 0, 21}, {57, p(5), 0, 21}, {60, p(5), 0, 20},
            {58, p(5, 0), 0, 20}, {59, p(5, 0), 0, 20}, {192, p(5), 0, 20}, {223, p(5), 0, 20}, {224, p(5, 0), 0, 20}, {255, p(5, 0), 0, 20},
            {50, p(0), 18, 20}, {51, p(0), 17, 19}, {52, p(0), 18, 20}, {53, p(0), 17, 19}, {54, p(1), 18, 20}, {55, p(1), 17, 19},
            {57, p(0), 17, 19}, {57, p(0), 18, 20}, {60, p(0), 16, 19}, {58, p(0, 0), 16, 19}, {59, p(0, 0), 16, 19}, {192, p(0), 16, 19},
            {223, p(0), 16, 19}, {224, p(0, 0), 16, 19}, {255, p(0, 0), 16, 19}};
        for (Object[] row : codes) {
            for (int zone = 19; zone <= 21; zone++) {
                int code = (Integer) row[0];
                boolean contour = code == 52 || code == 53;
                if (contour && zone == 21) {
                    continue;
                }
                byte[] reference = (Integer) row[2] == 0 ? new byte[0] : FontKit.prog(p(5), row[2]);
                int answer = Triangle.kit(p(0), zone, reference, row[1], code).sized(10).make(1);
                String what = "5 by " + code + (reference.length == 0 ? "" : " as RP by " + row[2]) + ", zone 0 by " + zone;
                Check.due(what, answer, zone == (Integer) row[3] ? -105 : 4);
            }
        }
    }

    /** Many points between two that are TOUCHED, or around from one to itself. */
    private static void manyPointsBetween() {
        int[] contour = new int[300];
        for (int i = 0; i < 100; i++) {
            contour[3 * i] = 2 * i;
            contour[3 * i + 1] = 3 * i;
        }
        FontKit kit = new FontKit().add(0, 0, FontKit.simple(0, FontKit.prog(p(50, 7), 56, 49, 0, p(0, 5), 56, p(99, 5), 56, 48), contour));
        HintHouse house = kit.sized(10);
        Check.due("make(0)", house.make(0), 100);
        for (int i = 0; i < 100; i++) {
            Check.due("x of " + i, house.point(i, 0), 2 * i + 7);
            Check.due("y of " + i, house.point(i, 1), 3 * i + 5);
        }
    }
}

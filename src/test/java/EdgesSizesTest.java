/** The edges that "5 SIZES" names: what a size begins with, what is made of parts, FAILURES 5 and 12. */
public final class EdgesSizesTest {
    public static void main(String[] args) {
        ppem();
        limitsCanBeUsed();
        functionsAreGone();
        ownCodesAreGone();
        memoryBeginsAnew();
        prepOnlyBehindFpgm();
        eachGlyphBeginsAsTheSizeLeft();
        phantoms();
        phantomsAreRounded();
        phantomsOfParts();
        memoryOfTheFirstGlyph();
        phantomsOfManyPoints();
        phantomsBeginAnew();
        nothingIsTouched();
        partsInParts();
        offsetsHalvesUp();
        matchedPoints();
        hundredPoints();
        twentyContours();
        sixtyParts();
        hundredPointsWithAProgram();
        theFirstFailure();
        onlyTheGlyphAskedForGoesLeft();
        onAsProgramsLeftIt();
        Check.done();
    }

    private static int[] p(int... values) {
        return values;
    }

    /** "PPEM is 4 .. 48". */
    private static void ppem() {
        HintHouse house = new FontKit().addSquare().house();
        int[][] due = {{3, -2}, {4, 0}, {48, 0}, {49, -2}, {0, -2}, {-4, -2}, {Integer.MAX_VALUE, -2}, {Integer.MIN_VALUE, -2}};
        for (int[] pair : due) {
            Check.due("size(" + pair[0] + ")", house.size(pair[0]), pair[1]);
        }
        Check.due("told(6)", house.told(6), 48);
        house.make(0);
        Check.due("x at 48", house.point(1, 0), 320 * 48 / 10);
        house.size(4);
        house.make(0);
        Check.due("x at 4", house.point(1, 0), 320 * 4 / 10);
    }

    /** The most that maxp and "cvt " may tell can all be used, and one more cannot. */
    private static void limitsCanBeUsed() {
        FontKit kit = new FontKit().addEmpty();
        kit.twilight = 64;
        kit.storage = 64;
        kit.functions = 64;
        kit.ownCodes = 16;
        kit.stack = 256;
        kit.cvt = new byte[512];
        kit.cvt[511] = 77;
        int[] row = new int[255];
        kit.prep = FontKit.prog(p(63), 44, 45, p(63), 43, p(63, 5), 66, p(255), 69, p(62), 35, 66, p(0), 22, p(63, 640), 72, row, 36);
        HintHouse house = kit.sized(10);
        Check.due("STORAGE 63", house.held(1, 63), 5);
        Check.due("CVT 255", house.held(0, 255), 77);
        Check.due("CVT 255 by 69", house.held(1, 62), 77);
        Check.due("TWILIGHT point 63", house.held(2, 63), 640);
        Check.due("256 numbers", house.told(9), 256);
        Check.due("held(1, 64)", house.held(1, 64), 0);
        Check.due("held(0, 256)", house.held(0, 256), 0);
        Check.due("held(2, 64)", house.held(2, 64), 0);
        kit.prep = FontKit.prog(row, 36, 36);
        Prep.failsIn("257 numbers", kit, 2, 2 + 2 * 255 + 1);
        kit.prep = FontKit.prog(p(64, 5), 66);
        Prep.failsIn("STORAGE 64", kit, 6, 6);
        kit.prep = FontKit.prog(p(256), 69);
        Prep.failsIn("CVT 256", kit, 6, 4);
        kit.prep = FontKit.prog(p(64), 44, 45);
        Prep.failsIn("FUNCTION 64", kit, 6, 4);
        kit.prep = FontKit.prog(p(0), 22, p(64, 0), 72);
        Prep.failsIn("TWILIGHT point 64", kit, 5, 11);
        FontKit.Out codes = new FontKit.Out();
        for (int c = 142; c < 158; c++) {
            codes.raw(FontKit.prog(p(c), 137, 75, 45));
        }
        kit.prep = FontKit.prog(codes.done(), 142, 157, 96, p(0), 35, 66);
        Check.due("16 OWN CODES", kit.sized(10).held(1, 0), 20);
        kit.prep = FontKit.prog(codes.done(), p(158), 137, 45);
        Prep.failsIn("17 OWN CODES", kit, 6, 16 * 7 + 4);
        kit.prep = FontKit.prog(codes.done(), p(157), 137, 45, p(142), 137, p(1), 45, 142, p(0), 35, 66);
        Check.due("16 OWN CODES, one of them again", kit.sized(10).held(1, 0), 1);
        limitsOfNone();
    }

    private static void limitsOfNone() {
        FontKit kit = new FontKit().addEmpty();
        kit.twilight = 0;
        kit.storage = 0;
        kit.functions = 0;
        kit.ownCodes = 0;
        kit.cvt = new byte[0];
        kit.prep = FontKit.prog(p(0, 5), 66);
        Prep.failsIn("STORAGE 0 of none", kit, 6, 6);
        kit.prep = FontKit.prog(p(0), 69);
        Prep.failsIn("CVT 0 of none", kit, 6, 4);
        kit.prep = FontKit.prog(p(0), 44, 45);
        Prep.failsIn("FUNCTION 0 of none", kit, 6, 4);
        kit.prep = FontKit.prog(p(150), 137, 45);
        Prep.failsIn("an OWN CODE of none", kit, 6, 4);
        kit.prep = FontKit.prog(p(0), 22, p(0, 0), 72);
        Prep.failsIn("TWILIGHT point 0 of none", kit, 5, 11);
        kit.prep = FontKit.prog(p(0), 22, p(0), 54);
        Prep.failsIn("a REFERENCE of none", kit, 5, 9);
        kit.stack = 0;
        kit.prep = FontKit.prog(64, 0, 65, 0, 34, 36);
        Prep.failsIn("a STACK of none", kit, 2, 5);
    }

    /** A prep that does one thing at PPEM 10 and another at other sizes. */
    private static byte[] atTen(byte[] then, byte[] otherwise) {
        return FontKit.prog(75, p(10), 84, 88, then, 27, otherwise, 89);
    }

    /** "A SIZE is SET: no FUNCTIONS". */
    private static void functionsAreGone() {
        FontKit kit = Prep.kit();
        byte[] call = FontKit.prog(p(3), 43);
        // A definition within an IF: its 45 ends it, then comes the 89.
        kit.prep = atTen(FontKit.prog(p(3), 44, 45, call), call);
        HintHouse house = kit.house();
        Check.due("size(10) has it", house.size(10) > 0 ? 1 : 0, 1);
        Check.due("size(11) has it no more", house.size(11), -106);
        Check.due("size(10) again", house.size(10) > 0 ? 1 : 0, 1);
        FontKit glyphs = Prep.kit();
        glyphs.prep = atTen(FontKit.prog(p(3), 44, 45), FontKit.prog());
        glyphs.addSquare(p(3), 43);
        house = glyphs.sized(10);
        Check.due("make(1) at 10", house.make(1), 4);
        house.size(12);
        Check.due("make(1) at 12", house.make(1), -106);
    }

    /** "no ... OWN CODES": none is done, and none is counted. */
    private static void ownCodesAreGone() {
        FontKit kit = Prep.kit();
        kit.prep = atTen(FontKit.prog(p(200), 137, 45, p(150), 137, 45, 150), FontKit.prog(150));
        HintHouse house = kit.house();
        for (int turn = 0; turn < 3; turn++) {
            Check.due("size(10), two OWN CODES of two", house.size(10) > 0 ? 1 : 0, 1);
            Check.due("size(11), none", house.size(11), -103);
        }
    }

    /** "STORAGE is 0; CVT are cvt's S2s, SCALED; the TWILIGHT points are 0, 0 (ORIGINAL and CURRENT)", KEPT settings as at first. */
    private static void memoryBeginsAnew() {
        FontKit kit = Prep.kit();
        byte[] leave = FontKit.prog(p(0, 1, 15, 2), 66, 66, p(0, 9, 2, 9), 68, 68, p(0), 22, p(0, 64), 72, p(3, 64), 72,
            0, p(0, 65), 72, p(3, 65), 72, p(3, 9), 56, 1, p(3, 9), 56, p(5), 133, p(6), 141);
        kit.prep = atTen(leave, FontKit.prog());
        HintHouse house = kit.house();
        house.size(10);
        int[][] left = {{0, 0, 9}, {0, 1, -50}, {0, 2, 9}, {1, 0, 1}, {1, 15, 2}, {2, 0, 64}, {3, 0, 65}, {4, 0, 64}, {5, 0, 65},
            {2, 3, 73}, {3, 3, 74}, {4, 3, 64}, {5, 3, 65}};
        for (int[] row : left) {
            Check.due("held(" + row[0] + ", " + row[1] + ")", house.held(row[0], row[1]), row[2]);
        }
        Check.due("told(7)", house.told(7), 5);
        house.size(20);
        for (int[] row : left) {
            int due = row[0] > 0 ? 0 : p(200, -100, 128)[row[1]];
            Check.due("held(" + row[0] + ", " + row[1] + ") anew", house.held(row[0], row[1]), due);
        }
        Check.due("told(7) anew", house.told(7), 0);
        Check.due("told(8) anew", house.told(8), 0);
    }

    /** "fpgm runs, if there is one, then, if it did not FAIL, prep". */
    private static void prepOnlyBehindFpgm() {
        FontKit kit = Prep.kit(1, 1, 1);
        kit.fpgm = FontKit.prog(1, 33);
        HintHouse house = kit.house();
        Check.due("fpgm fails", house.size(10), -101);
        Check.due("its steps alone", house.told(0), 2);
        Check.due("its place", house.told(3), 1);
        Check.due("one has failed", house.told(1), 1);
        kit.fpgm = new byte[0];
        Check.due("fpgm without bytes", kit.house().size(10), 3);
        kit.prep = new byte[0];
        Check.due("both without bytes", kit.house().size(10), 0);
        kit.fpgm = FontKit.prog(1);
        Check.due("prep without bytes", kit.house().size(10), 1);
        kit.prep = null;
        Check.due("no prep", kit.house().size(10), 1);
        kit.fpgm = null;
        Check.due("neither", kit.house().size(10), 0);
    }

    /** "Each glyph's program begins with CVT, STORAGE, TWILIGHT points and KEPT settings as the SIZE left them". */
    private static void eachGlyphBeginsAsTheSizeLeft() {
        FontKit kit = Prep.kit(p(0, 7), 66, p(0, 8), 68, p(0), 22, p(0, 9), 72, p(2), 133);
        kit.addSquare(p(0, 50), 66, p(0, 51), 68, p(0), 21, p(0, 52), 72, 0, p(0, 53), 72, p(53), 133, p(54), 141, p(55), 29,
            p(56), 26, p(57), 30, p(58), 31, 78, p(5), 94, p(6), 95);
        kit.addSquare(p(0), 67, p(0), 69, 96, p(0), 21, p(0), 70, 96, 2, p(0), 70, 96, 133);
        HintHouse house = kit.sized(10);
        for (int turn = 0; turn < 2; turn++) {
            Check.due("make(1)", house.make(1), 4);
            Check.due("told(7) of 1", house.told(7), 53);
            Check.due("told(8) of 1", house.told(8), 54);
            Check.due("make(2)", house.make(2), 4);
            Check.due("told(7) of 2: 7, 8, 9, 0", house.told(7), 24);
            Check.due("told(8) of 2", house.told(8), 0);
            Check.due("held(1, 0)", house.held(1, 0), 7);
        }
        keptByGlyphs();
    }

    /** LEAST, FLIP, CUT, BASE, SHIFT, SINGLE as the size left them, one glyph for each, behind one that changes all. */
    private static void keptByGlyphs() {
        FontKit kit = Prep.kit(p(20), 26, 78, p(3), 29, p(7), 94, p(2), 95);
        byte[] square = FontKit.prog(p(1), 26, 77, p(0), 29, p(9), 94, p(0), 95, p(99), 31, p(999), 30);
        kit.addSquare(square);
        kit.addSquare(p(0), 16, p(0, 0), 72, p(3), 200);
        kit.addSquare(p(0), 16, p(1, 1), 224);
        kit.addSquare(p(1, 2), 63);
        kit.addSquare(p(0x38, 1, 1), 93);
        HintHouse house = kit.sized(10);
        int[][] due = {{2, 3, 20}, {3, 1, -50}, {4, 1, 320}, {5, 1, 336}};
        for (int[] row : due) {
            Check.due("make(1)", house.make(1), 4);
            Check.due("make(" + row[0] + ")", house.make(row[0]), 4);
            Check.due("x of " + row[1] + " in " + row[0], house.point(row[1], 0), row[2]);
        }
    }

    /** Where the first PHANTOM is, and the ADVANCE, at UNITS 512 and PPEM 4. */
    private static int[] sides(int left, int bearing, int advance) {
        FontKit kit = new FontKit();
        kit.units = 512;
        kit.add(advance, bearing, FontKit.simple(left, new byte[0], p(0, 0, 1)));
        HintHouse house = kit.sized(4);
        Check.due("make(0)", house.make(0), 1);
        return p(-house.point(0, 0), house.told(4));
    }

    /** "the first one at LEFT less BEARING, the other one at that and ADVANCE (all SCALED, that sum before; ...)". */
    private static void phantoms() {
        // A unit is a half: 1 is 1, 2 is 1, 3 is 2; -1 is -1, -2 is -1.
        int[][] due = {{1, 0, 0, 1, 0}, {0, 1, 0, -1, 0}, {1, 0, 1, 1, 0}, {1, 0, 2, 1, 1}, {0, 1, 1, -1, 1}, {0, 1, 2, -1, 2},
            {2, -1, 0, 2, 0}, {0, 0, 1, 0, 1}, {3, 2, 65535, 1, 32767}};
        for (int[] row : due) {
            int[] got = sides(row[0], row[1], row[2]);
            String what = "LEFT " + row[0] + ", BEARING " + row[1] + ", ADVANCE " + row[2];
            Check.due(what + ": the first one", got[0], row[3]);
            Check.due(what + ": ADVANCE", got[1], row[4]);
        }
        // Without bytes LEFT is 0, and no point shows where the first one is, but for a program of a whole.
        FontKit kit = new FontKit().add(100, 7, new byte[0]);
        kit.add(0, 0, FontKit.withProgram(FontKit.composed(0, FontKit.part(2 + 256 + 512, 0, 0, 0)), p(0), 71, 133, p(1), 71, 141));
        HintHouse house = kit.sized(10);
        Check.due("make(1)", house.make(1), 0);
        Check.due("the first one at -BEARING", house.told(7), -7);
        Check.due("the other one", house.told(8), 93);
    }

    /** "the PHANTOMS' CURRENT x are rounded to a multiple of PX (halves up)". */
    private static void phantomsAreRounded() {
        int[][] due = {{0, 0}, {31, 0}, {32, 64}, {33, 64}, {63, 64}, {64, 64}, {95, 64}, {96, 128}, {-31, 0}, {-32, 0}, {-33, -64},
            {-64, -64}, {-95, -64}, {-96, -64}, {-97, -128}};
        for (int[] pair : due) {
            FontKit kit = new FontKit().add(200 - pair[0], -pair[0], FontKit.simple(0, FontKit.prog(p(1), 70, 133, p(1), 71, 141), p(0, 0, 1)));
            HintHouse house = kit.sized(10);
            house.make(0);
            Check.due(pair[0] + " is rounded", house.told(7), pair[1]);
            Check.due(pair[0] + " is ORIGINAL", house.told(8), pair[0]);
            Check.due(pair[0] + ": all go to the left", house.point(0, 0), -pair[1]);
            Check.due(pair[0] + ": ADVANCE", house.told(4), 192 - pair[1]);
        }
        FontKit plain = new FontKit().add(200, -33, FontKit.simple(0, new byte[0], p(0, 0, 1)));
        HintHouse house = plain.sized(10);
        house.make(0);
        Check.due("without a program they are not rounded", house.point(0, 0), -33);
        Check.due("without a program ADVANCE is not rounded", house.told(4), 200);
    }

    /** "With bit 512 the PHANTOMS become those of the PART'S glyph as it was MADE", in y, too, and of the last such PART. */
    private static void phantomsOfParts() {
        FontKit kit = new FontKit();
        kit.add(300, 0, FontKit.simple(0, FontKit.prog(p(1, 5), 56, p(2, 7), 56, 0, p(1, 11), 56, p(2, 13), 56), p(0, 0, 1)));
        kit.add(500, -64, FontKit.simple(0, new byte[0], p(0, 0, 1)));
        byte[] read = FontKit.prog(0, p(2), 70, 133, p(3), 70, 141);
        byte[] first = FontKit.composed(0, FontKit.part(34 + 512, 0, 0, 0), FontKit.part(2 + 256, 1, 0, 0));
        byte[] last = FontKit.composed(0, FontKit.part(34 + 512, 0, 0, 0), FontKit.part(2 + 256 + 512, 1, 0, 0));
        byte[] none = FontKit.composed(0, FontKit.part(34, 0, 0, 0), FontKit.part(2 + 256, 1, 0, 0));
        kit.add(900, -128, FontKit.withProgram(first, read));
        kit.add(900, -128, FontKit.withProgram(last, read));
        kit.add(900, -128, FontKit.withProgram(none, read));
        HintHouse house = kit.sized(10);
        // As MADE they are 5, 11 and 327, 13; ahead of the whole's program 5 and 327 are rounded to 0 and 320.
        Check.due("make(2)", house.make(2), 2);
        Check.due("y of the first one", house.told(7), 11);
        Check.due("y of the other one", house.told(8), 13);
        Check.due("ADVANCE", house.told(4), 320);
        house.make(3);
        Check.due("the last such part: y", house.told(7), 0);
        Check.due("the last such part: ADVANCE", house.told(4), 576 - 64);
        Check.due("the last such part: to the left", house.point(0, 0), -64);
        house.make(4);
        Check.due("no such part: y", house.told(7), 0);
        Check.due("no such part: ADVANCE", house.told(4), 1024 - 128);
    }

    /** CURRENT and ORIGINAL TWILIGHT places, the last CVT and the last STORAGE, as the first glyph sees them. */
    private static void memoryOfTheFirstGlyph() {
        byte[] left = FontKit.prog(p(0), 22, 1, p(3, 10), 72, 0, p(3, 20), 72, p(3, 7), 56, 1, p(3, 3), 56);
        Object[][] reads = {{p(3), 70}, {p(3), 71}, {0, p(3), 70}, {0, p(3), 71}};
        int[] due = {13, 10, 27, 20};
        for (int k = 0; k < reads.length; k++) {
            FontKit kit = Prep.kit(left);
            kit.addSquare(p(0), 21, FontKit.prog(reads[k]), 133);
            HintHouse house = kit.sized(10);
            Check.due("make(1)", house.make(1), 4);
            Check.due("TWILIGHT point 3, number " + k, house.told(7), due[k]);
        }
        for (int storage : p(1, 64)) {
            for (int cvts : p(1, 256)) {
                FontKit kit = new FontKit().addEmpty();
                kit.storage = storage;
                kit.cvt = new byte[2 * cvts];
                kit.prep = FontKit.prog(p(storage - 1, 5), 66, p(cvts - 1, 6), 68);
                kit.addSquare(p(storage - 1), 67, 133, p(cvts - 1), 69, 141);
                HintHouse house = kit.sized(10);
                Check.due("make(1) of " + storage + ", " + cvts, house.make(1), 4);
                Check.due("the last STORAGE of " + storage + ", " + cvts, house.told(7), 5);
                Check.due("the last CVT of " + storage + ", " + cvts, house.told(8), 6);
            }
        }
    }

    /** With bit 512 both places of both PHANTOMS, behind however many points they stand. */
    private static void phantomsOfManyPoints() {
        FontKit kit = new FontKit();
        kit.add(300, 0, FontKit.simple(0, FontKit.prog(p(4, 5), 56, p(5, 7), 56, 0, p(4, 11), 56, p(5, 13), 56), FontKit.square(50, 60, 70)));
        for (int axis = 0; axis < 2; axis++) {
            byte[] whole = FontKit.composed(0, FontKit.part(2 + 256 + 512, 0, 0, 0));
            kit.add(900, -128, FontKit.withProgram(whole, axis == 0 ? 1 : 0, p(4), 71, 133, p(5), 71, 141));
        }
        HintHouse house = kit.sized(10);
        int[][] due = {{5, 327}, {11, 13}};
        for (int axis = 0; axis < 2; axis++) {
            Check.due("make(" + (1 + axis) + ")", house.make(1 + axis), 4);
            Check.due("the first one, axis " + axis, house.told(7), due[axis][0]);
            Check.due("the other one, axis " + axis, house.told(8), due[axis][1]);
        }
    }

    /** "(... y 0; ...)": whatever another glyph's program did with its PHANTOMS. */
    private static void phantomsBeginAnew() {
        FontKit kit = new FontKit().add(100, 0, FontKit.simple(0, FontKit.prog(0, p(1, 5), 56, p(2, 7), 56), p(0, 0, 1)));
        kit.add(100, 0, FontKit.simple(0, FontKit.prog(0, p(1), 70, 133, p(2), 70, 141), p(0, 0, 1)));
        HintHouse house = kit.sized(10);
        for (int turn = 0; turn < 2; turn++) {
            house.make(0);
            house.make(1);
            Check.due("y of the first one", house.told(7), 0);
            Check.due("y of the other one", house.told(8), 0);
        }
    }

    /** "nothing is TOUCHED": whatever another glyph's program, or a part's, has TOUCHED. */
    private static void nothingIsTouched() {
        int[] row = p(0, 0, 1, 10, 10, 1, 20, 20, 1);
        FontKit kit = new FontKit().add(0, 0, FontKit.simple(0, FontKit.prog(p(0), 46, p(2), 46, 0, p(0), 46, p(2), 46), row));
        // Were 0 or 2 TOUCHED, they would stay.
        byte[] fill = FontKit.prog(p(1, 7), 56, 49, 0, p(1, 7), 56, 48);
        kit.add(0, 0, FontKit.simple(0, fill, row));
        kit.add(0, 0, FontKit.withProgram(FontKit.composed(0, FontKit.part(2 + 256, 0, 0, 0)), fill));
        HintHouse house = kit.sized(10);
        for (int g : p(1, 2)) {
            house.make(0);
            Check.due("make(" + g + ")", house.make(g), 3);
            for (int i = 0; i < 3; i++) {
                Check.due("x of " + i + " of " + g, house.point(i, 0), 10 * i + 7);
                Check.due("y of " + i + " of " + g, house.point(i, 1), 10 * i + 7);
            }
        }
    }

    /** "for each PART in order its glyph is MADE (likewise ...)": a part's own parts leave its numbers as they are. */
    private static void partsInParts() {
        FontKit kit = new FontKit().add(0, 0, FontKit.simple(0, new byte[0], p(0, 0, 1, 8, 4, 1)));
        kit.add(0, 0, FontKit.composed(0, FontKit.part(34 + 8, 0, 1, 2, 8192), FontKit.part(0, 0, 1, 0)));
        kit.add(0, 0, FontKit.composed(0, FontKit.part(34 + 1 + 64, 1, 200, 300, 16384, -16384), FontKit.part(2, 1, 100, 50)));
        HintHouse house = kit.sized(10);
        // Glyph 1: 1, 2; 5, 4; then 0, 0 on 5, 4: 5, 4; 13, 8.
        Check.due("make(1)", house.make(1), 4);
        int[] inner = {1, 2, 5, 4, 5, 4, 13, 8};
        Check.due("make(2)", house.make(2), 8);
        for (int i = 0; i < 4; i++) {
            Check.due("x of " + i, house.point(i, 0), 200 + inner[2 * i]);
            Check.due("y of " + i, house.point(i, 1), 300 - inner[2 * i + 1]);
            Check.due("x of " + (4 + i), house.point(4 + i, 0), 100 + inner[2 * i]);
            Check.due("y of " + (4 + i), house.point(4 + i, 1), 50 + inner[2 * i + 1]);
        }
        kit.add(0, 0, FontKit.composed(0, FontKit.part(34, 0, 0, 0), FontKit.part(32, 1, 1, 3), FontKit.part(2 + 512, 1, 0, 0)));
        house = kit.sized(10);
        // Point 3 of glyph 1, at 13, 8, comes to lie on 8, 4.
        Check.due("make(3)", house.make(3), 10);
        Check.due("x of the matched one", house.point(5, 0), 8);
        Check.due("y of the matched one", house.point(5, 1), 4);
        Check.due("x of the third part", house.point(9, 0), 13);
    }

    /** "with bit 4 each rounded to a multiple of PX (halves up)". */
    private static void offsetsHalvesUp() {
        int[][] due = {{31, 0}, {32, 64}, {-31, 0}, {-32, 0}, {-33, -64}, {96, 128}, {-96, -64}, {-97, -128}, {64, 64}, {0, 0}};
        for (int[] pair : due) {
            FontKit kit = new FontKit().add(0, 0, FontKit.simple(0, new byte[0], p(0, 0, 1)));
            kit.add(0, 0, FontKit.composed(0, FontKit.part(2 + 4, 0, pair[0], 0)));
            kit.add(0, 0, FontKit.composed(0, FontKit.part(2 + 4, 0, 0, pair[0])));
            kit.add(0, 0, FontKit.composed(0, FontKit.part(2, 0, pair[0], pair[0])));
            HintHouse house = kit.sized(10);
            house.make(1);
            Check.due("x by " + pair[0], house.point(0, 0), pair[1]);
            house.make(2);
            Check.due("y by " + pair[0], house.point(0, 1), pair[1]);
            house.make(3);
            Check.due("without bit 4 by " + pair[0], house.point(0, 0), pair[0]);
        }
    }

    /** "the second number ... the one, of those so far, that the first number tells (points that there are not: FAILURE 5)". */
    private static void matchedPoints() {
        for (int first = 0; first <= 5; first++) {
            for (int second = 0; second <= 5; second++) {
                FontKit kit = new FontKit().add(0, 0, FontKit.simple(0, new byte[0], p(0, 0, 1, 10, 20, 1)));
                kit.add(0, 0, FontKit.simple(0, new byte[0], p(1, 2, 1, 30, 40, 1, 50, 60, 1)));
                kit.add(0, 0, FontKit.composed(0, FontKit.part(34, 0, 5, 6), FontKit.part(0, 1, first, second)));
                kit.add(0, 0, FontKit.composed(0, FontKit.part(34, 0, 5, 6), FontKit.part(1, 1, first, second)));
                HintHouse house = kit.sized(10);
                boolean right = first < 2 && second < 3;
                for (int g = 2; g <= 3; g++) {
                    Check.due("point " + second + " on " + first, house.make(g), right ? 5 : -105);
                    Check.due("point " + second + " on " + first + ": told(3)", house.told(3), -1);
                    if (right) {
                        Check.due("its x", house.point(2 + second, 0), house.point(first, 0));
                        Check.due("its y", house.point(2 + second, 1), house.point(first, 1));
                        Check.due("the others' x", house.point(4, 0) - house.point(2, 0), 49);
                        Check.due("those so far stay", house.point(1, 1), 26);
                    }
                }
            }
        }
        FontKit alone = new FontKit().add(0, 0, FontKit.simple(0, new byte[0], p(0, 0, 1)));
        alone.add(0, 0, FontKit.composed(0, FontKit.part(0, 0, 0, 0)));
        Check.due("no points so far", alone.sized(10).make(1), -105);
    }

    private static byte[] dots(int contours, int points) {
        int[][] all = new int[contours][];
        for (int k = 0; k < contours; k++) {
            all[k] = new int[3 * (k == contours - 1 ? points - contours + 1 : 1)];
        }
        return FontKit.simple(0, new byte[0], all);
    }

    /** A whole of two parts: points and contours of the first, of the second. */
    private static void two(String what, byte[] first, byte[] second, int due) {
        FontKit kit = new FontKit().add(0, 0, first).add(0, 0, second);
        kit.add(0, 0, FontKit.composed(0, FontKit.part(34, 0, 0, 0), FontKit.part(2, 1, 0, 0)));
        HintHouse house = kit.sized(10);
        Check.due(what, house.make(2), due);
        Check.due(what + ": told(2)", house.told(2), due < 0 ? 12 : 0);
        Check.due(what + ": told(3)", house.told(3), -1);
    }

    /** "FAILURE 12: a glyph (so far, PHANTOMS aside) would have more than 100 points". */
    private static void hundredPoints() {
        two("99 and 1", dots(1, 99), dots(1, 1), 100);
        two("100 and 0", dots(1, 100), new byte[0], 100);
        two("0 and 100", new byte[0], dots(1, 100), 100);
        two("100 and 1", dots(1, 100), dots(1, 1), -112);
        two("1 and 100", dots(1, 1), dots(1, 100), -112);
        two("50 and 51", dots(1, 50), dots(1, 51), -112);
        two("100 and 100", dots(1, 100), dots(1, 100), -112);
    }

    /** "or 20 contours". */
    private static void twentyContours() {
        two("12 and 8", dots(12, 12), dots(8, 8), 20);
        two("12 and 9", dots(12, 12), dots(9, 9), -112);
        two("10 and 10", dots(10, 30), dots(10, 40), 70);
        two("12 and 12", dots(12, 12), dots(12, 12), -112);
        FontKit kit = new FontKit().add(0, 0, dots(12, 12)).add(0, 0, dots(8, 8));
        kit.add(0, 0, FontKit.composed(0, FontKit.part(34, 0, 0, 0), FontKit.part(2, 1, 0, 0)));
        HintHouse house = kit.sized(10);
        house.make(2);
        Check.due("told(5) of 20", house.told(5), 20);
        Check.due("point(19, 3)", house.point(19, 3), 19);
    }

    private static byte[] partsOf(int... glyphs) {
        byte[][] parts = new byte[glyphs.length][];
        for (int k = 0; k < glyphs.length; k++) {
            parts[k] = FontKit.part(k < glyphs.length - 1 ? 34 : 2, glyphs[k], 0, 0);
        }
        return FontKit.composed(0, parts);
    }

    /** "or the 61st PART of all that is MADE for one glyph is begun". */
    private static void sixtyParts() {
        FontKit kit = new FontKit().addSquare(1, 1).add(0, 0, new byte[0]);
        kit.depth = 3;
        kit.add(0, 0, partsOf(1, 1, 1, 1, 1, 1, 1, 1));
        kit.add(0, 0, partsOf(2, 2, 2, 2, 2, 2));
        kit.add(0, 0, partsOf(3, 1, 1, 1, 1, 0));
        kit.add(0, 0, partsOf(3, 1, 1, 1, 1, 0, 0));
        kit.add(0, 0, partsOf(3, 1, 1, 1, 1, 0, 1));
        HintHouse house = kit.sized(10);
        for (int turn = 0; turn < 2; turn++) {
            Check.due("54 parts", house.make(3), 0);
            Check.due("60 parts", house.make(4), 4);
            Check.due("60 parts: told(0)", house.told(0), 2);
            Check.due("61 parts", house.make(5), -112);
            Check.due("61 parts: the 61st is not made", house.told(0), 2);
            Check.due("61 parts, the last one empty", house.make(6), -112);
            Check.due("61 parts: told(3)", house.told(3), -1);
        }
    }

    /** "PHANTOMS aside": behind 100 points both have room, and their program can use all of them. */
    private static void hundredPointsWithAProgram() {
        for (int points : p(98, 99, 100)) {
            int[] dots = new int[3 * points];
            byte[] program = FontKit.prog(p(points - 1, 7), 56, p(points, 64), 56, p(points + 1, 65), 56, 48, 49, p(points + 1), 70, 133);
            FontKit kit = new FontKit().add(200, 0, FontKit.simple(0, program, dots));
            kit.add(200, 0, FontKit.withProgram(FontKit.composed(0, FontKit.part(2 + 256, 0, 0, 0)), p(points + 2), 46));
            HintHouse house = kit.sized(10);
            Check.due("make(0) of " + points, house.make(0), points);
            Check.due("the last point of " + points, house.point(points - 1, 0), 7 - 64);
            Check.due("the first point of " + points, house.point(0, 0), 7 - 64);
            Check.due("the last PHANTOM of " + points, house.told(7), 192 + 65);
            Check.due("ADVANCE of " + points, house.told(4), 192 + 65 - 64);
            Check.due("one more than there are, of " + points, house.make(1), -105);
        }
    }

    /** "FAILURES end the program (and what it is for) ... The first of these". */
    private static void theFirstFailure() {
        FontKit kit = new FontKit().add(0, 0, FontKit.simple(0, FontKit.prog(p(0), FontKit.number(2000000), 72), p(0, 0, 1)));
        kit.add(0, 0, FontKit.simple(0, FontKit.prog(1, 15, 1), p(0, 0, 1)));
        kit.add(0, 0, FontKit.composed(0, FontKit.part(34, 0, 0, 0), FontKit.part(2, 1, 0, 0)));
        kit.add(0, 0, FontKit.composed(0, FontKit.part(34, 1, 0, 0), FontKit.part(0, 0, 99, 99)));
        kit.add(0, 0, FontKit.withProgram(FontKit.composed(0, FontKit.part(34, 0, 0, 0), FontKit.part(32, 0, 9, 9), FontKit.part(2 + 256, 1, 0, 0)), 33));
        kit.add(0, 0, FontKit.withProgram(FontKit.composed(0, FontKit.part(2 + 256, 2, 0, 0)), 33));
        HintHouse house = kit.sized(10);
        // What fails first, its place, and the steps till then: 12 of the part that goes far away, 2 of the one that fails.
        int[][] due = {{2, -103, 1, 14}, {3, -103, 1, 2}, {4, -105, -1, 24}, {5, -103, 1, 14}};
        for (int[] row : due) {
            Check.due("make(" + row[0] + ")", house.make(row[0]), row[1]);
            Check.due("told(3) of " + row[0], house.told(3), row[2]);
            Check.due("told(0) of " + row[0], house.told(0), row[3]);
        }
        Check.due("told(1)", house.told(1), 4);
        theFirstOutsideOfPrograms();
    }

    /** The same of FAILURES 5, 12 and 13, each with another one of them behind it. */
    private static void theFirstOutsideOfPrograms() {
        FontKit kit = new FontKit().add(0, 0, FontKit.simple(0, FontKit.prog(p(0), FontKit.number(2000000), 72), p(0, 0, 1)));
        kit.add(0, 0, new byte[0]).add(0, 0, partsOf(1, 1, 1, 1, 1, 1, 1, 1)).add(0, 0, partsOf(2, 2, 2, 2, 2, 2));
        kit.add(0, 0, partsOf(0)).add(0, 0, dots(1, 100));
        byte[] none = FontKit.part(32, 1, 99, 99);
        byte[] last = FontKit.part(2, 5, 0, 0);
        // 13 in a part, 12 by points, 5, 12 by parts: then 5, 5, 12 and (at last) 13. And 5, 12 with 13 at last.
        kit.add(0, 0, FontKit.composed(0, FontKit.part(34, 4, 0, 0), none, last));
        kit.add(0, 0, FontKit.composed(0, FontKit.part(34, 5, 0, 0), FontKit.part(34, 5, 0, 0), none, last));
        kit.add(0, 0, FontKit.composed(0, FontKit.part(34, 5, 0, 0), none, last));
        kit.add(0, 0, partsOf(3, 1, 1, 1, 1, 0, 1));
        kit.add(0, 0, FontKit.composed(0, FontKit.part(34, 0, 0, 0), FontKit.part(0, 1, 99, 99)));
        kit.add(0, 0, FontKit.composed(0, FontKit.part(34, 0, 0, 0), last));
        kit.depth = 3;
        HintHouse house = kit.sized(10);
        int[] due = {-113, -112, -105, -112, -105, -112};
        for (int k = 0; k < due.length; k++) {
            Check.due("make(" + (6 + k) + ")", house.make(6 + k), due[k]);
            Check.due("told(3) of " + (6 + k), house.told(3), -1);
        }
    }

    /** "at last (of the glyph asked for alone) all points go to the left by the first one's x". */
    private static void onlyTheGlyphAskedForGoesLeft() {
        FontKit kit = new FontKit().add(0, -30, FontKit.simple(0, new byte[0], p(100, 0, 1)));
        kit.add(0, 0, FontKit.composed(0, FontKit.part(2, 0, 0, 0)));
        kit.add(0, -7, FontKit.composed(0, FontKit.part(2, 0, 0, 0)));
        HintHouse house = kit.sized(10);
        house.make(0);
        Check.due("asked for", house.point(0, 0), 70);
        house.make(1);
        Check.due("as a part", house.point(0, 0), 100);
        house.make(2);
        Check.due("the whole goes", house.point(0, 0), 93);
    }

    /** "the points are CURRENT then, ON as it left them", of parts, too. */
    private static void onAsProgramsLeftIt() {
        FontKit kit = new FontKit().add(0, 0, FontKit.simple(0, FontKit.prog(p(0), 128, p(1), 128), p(0, 0, 1, 5, 0, 0, 9, 9, 1)));
        kit.add(0, 0, FontKit.simple(0, new byte[0], p(0, 0, 0, 5, 0, 1, 9, 9, 0)));
        kit.add(0, 0, FontKit.composed(0, FontKit.part(34, 0, 0, 0), FontKit.part(2, 1, 0, 0)));
        kit.add(0, 0, FontKit.withProgram(FontKit.composed(0, FontKit.part(34, 1, 0, 0), FontKit.part(2 + 256, 0, 0, 0)), p(5), 128));
        HintHouse house = kit.sized(10);
        house.make(2);
        int[] first = {0, 1, 1, 0, 1, 0};
        for (int i = 0; i < 6; i++) {
            Check.due("ON of " + i, house.point(i, 2), first[i]);
        }
        house.make(3);
        int[] second = {0, 1, 0, 0, 1, 0};
        for (int i = 0; i < 6; i++) {
            Check.due("ON of " + i + " by the whole's program", house.point(i, 2), second[i]);
        }
        house.make(1);
        Check.due("ON of the part for itself", house.point(0, 2), 0);
        house.make(2);
        Check.due("ON of 0 again", house.point(0, 2), 0);
    }
}

import java.math.BigInteger;

/** The codes that move points, in a glyph: UNITS 640 at PPEM 10, so that a unit is a 64th of a pixel. */
public final class MoveTest {
    public static void main(String[] args) {
        touching();
        shifting();
        interpolating();
        measuring();
        byCvt();
        bySingle();
        twilight();
        filling();
        telling();
        turning();
        deltas();
        slanted();
        pointFailures();
        zonesOfOne();
        zonesOfReferences();
        zonesOfVectors();
        edgesOf64Bits();
        Check.done();
    }

    private static int[] p(int... values) {
        return values;
    }

    private static HintHouse made(Object... program) {
        return Triangle.made("a triangle", program);
    }

    private static void at(String what, HintHouse house, int i, int x, int y) {
        Triangle.at(what, house, i, x, y);
    }

    private static void moves(String what, int i, int x, int y, Object... program) {
        Triangle.moves(what, i, x, y, program);
    }

    private static void gives(String what, int due, Object... codes) {
        Triangle.gives(what, due, codes);
    }

    private static void fails(String what, int failure, Object... codes) {
        Triangle.fails(what, failure, codes);
    }

    private static void touching() {
        moves("46", 1, 110, 40, p(1), 46);
        moves("47 in x", 1, 128, 40, p(1), 47);
        moves("47 in y", 1, 110, 64, 0, p(1), 47);
        moves("47 by halves", 1, 96, 40, 25, p(1), 47);
        moves("47 of a phantom", 1, 110, 40, p(4), 47);
        moves("47 sets RP1", 2, 88, 200, p(1), 47, p(2), 51);
        moves("47 sets RP0", 2, 133, 200, p(1), 47, p(2, 5), 58);
        gives("46 sets RP0", 55, p(2), 46, p(1, 55), 58, p(1, 2), 73);
        moves("41 and 49", 0, 10, 20, p(0), 47, p(0), 41, p(1), 46, 49);
        moves("41 only along F", 0, 0, 20, p(0), 47, 4, p(0), 41, p(1), 46, 49);
    }

    private static void shifting() {
        // RP2 is point 1, moved by 18 in x.
        byte[] moved = FontKit.prog(p(1), 47, p(1), 18, p(1), 17);
        moves("50", 2, 88, 200, moved, p(2), 50);
        moves("51", 2, 88, 200, moved, p(2), 51);
        moves("50 in y", 2, 70, 224, 0, p(1), 47, p(1), 18, p(2), 50);
        HintHouse three = made(moved, p(3), 23, p(0, 2, 3), 50, p(0), 50);
        at("50 by LOOP", three, 2, 88, 200);
        at("50 by LOOP", three, 3, 48, 30);
        at("50 by LOOP, then once", three, 0, 46, 20);
        HintHouse contour = made(moved, p(0), 52);
        at("52", contour, 0, 28, 20);
        at("52, the reference", contour, 1, 128, 40);
        at("52", contour, 2, 88, 200);
        at("52, another contour", contour, 3, 30, 30);
        at("53", made(moved, p(0), 53), 0, 28, 20);
        HintHouse zone = made(moved, p(1), 54);
        at("54", zone, 3, 48, 30);
        at("54", zone, 0, 28, 20);
        at("54, the reference", zone, 1, 128, 40);
        Check.due("54 leaves the phantoms", zone.told(4), 384);
        moves("54 does not touch", 0, 10 + 18, 20, moved, p(1), 55, 49);
        moves("52 does touch", 0, 28, 20, moved, p(0), 52, p(1), 41, 49);
        moves("56", 0, 10 - 7, 20, p(0, -7), 56);
        HintHouse pixels = made(0, p(2), 23, p(0, 3, 9), 56);
        at("56 by LOOP", pixels, 0, 10, 29);
        at("56 by LOOP", pixels, 3, 30, 39);
        moves("60", 2, 30, 200, p(3), 16, p(2), 60);
        moves("60 by LOOP", 0, 30, 20, p(3), 16, p(2), 23, p(0, 2), 60);
        // 39: 110 - 10 is 100, half of it to each.
        HintHouse both = made(p(0, 1), 39);
        at("39", both, 0, 60, 20);
        at("39", both, 1, 60, 40);
        HintHouse odd = made(p(3, 0), 39, p(0, 1), 56, p(3, 0), 39);
        at("39, cut off", odd, 3, 20, 30);
        at("39, cut off", odd, 0, 21, 20);
    }

    private static void interpolating() {
        // RP1 is 0 at 10, RP2 is 1 at 110, moved to 210: 70 goes from 60 of 100 to 120 of 200.
        byte[] wide = FontKit.prog(p(1, 100), 56, p(0), 17, p(1), 18);
        moves("57", 2, 130, 200, wide, p(2), 57);
        moves("57 outside", 3, 10 + 40, 30, wide, p(3), 57);
        HintHouse two = made(wide, p(2), 23, p(2, 3), 57);
        at("57 by LOOP", two, 2, 130, 200);
        at("57 by LOOP", two, 3, 50, 30);
        moves("57 without a range", 2, 70, 200, p(2, 33), 56, p(1), 17, p(1), 18, p(2), 57);
        moves("57 with negative numbers", 2, 10 + 120, 200, p(1, 100), 56, p(1), 17, p(0), 18, p(2), 57);
    }

    private static void measuring() {
        moves("58", 1, 40, 40, p(1, 30), 58);
        moves("58 from RP0", 1, 60, 40, p(3), 16, p(1, 30), 58);
        moves("58 sets RP2", 2, 0, 200, p(1, 30), 58, p(2), 50);
        moves("58 sets RP1", 2, 40, 200, p(3), 47, p(0), 17, p(1, 30), 58, p(2), 51);
        moves("59 sets RP0", 2, 45, 200, p(1, 30), 59, p(2, 5), 58);
        moves("58 leaves RP0", 2, 15, 200, p(1, 30), 58, p(2, 5), 58);
        // 192: 110 is 100 from 10; 0 is moved to 0 by 47.
        byte[] zero = FontKit.prog(p(0), 47);
        moves("192", 1, 100, 40, zero, p(1), 192);
        moves("196", 1, 128, 40, zero, p(1), 196);
        moves("200", 3, 64, 30, zero, p(3), 200);
        moves("200 of more than LEAST", 1, 100, 40, zero, p(1), 200);
        moves("204 of less than LEAST", 3, 64, 30, zero, p(3), 204);
        moves("200 with LEAST 25", 3, 25, 30, p(25), 26, zero, p(3), 200);
        moves("200 below 0", 0, 30 - 64, 20, p(3), 46, p(0), 200);
        moves("208 sets RP0", 2, 60, 200, zero, p(1), 208, p(2), 192);
        moves("192 leaves RP0", 2, 60, 200, zero, p(1), 192, p(2), 192);
        moves("192 sets RP2", 2, 60, 200, zero, p(1), 192, p(2), 50);
        moves("203 as 200", 3, 64, 30, zero, p(3), 203);
    }

    private static void byCvt() {
        moves("62", 1, 100, 40, p(1, 0), 62);
        moves("63 within CUT", 1, 128, 40, p(1, 0), 63);
        moves("63 beyond CUT", 3, 0, 30, p(3, 3), 63);
        moves("63 with a greater CUT", 3, 128, 30, p(100), 29, p(3, 3), 63);
        moves("63 at just CUT", 1, 64, 40, p(46), 29, p(1, 2), 63);
        moves("63 beyond CUT by 1", 1, 128, 40, p(45), 29, p(1, 2), 63);
        moves("62 sets RP0", 2, 105, 200, p(1, 0), 62, p(2, 5), 58);
        byte[] zero = FontKit.prog(p(0), 47);
        moves("224", 1, 130, 40, zero, p(1, 3), 224);
        moves("228", 1, 128, 40, zero, p(1, 3), 228);
        moves("228 beyond CUT", 3, 0, 30, zero, p(5), 29, p(3, 3), 228);
        moves("228 at just CUT", 3, 128, 30, zero, p(80), 29, p(3, 0), 228);
        moves("228 beyond CUT by 1", 3, 0, 30, zero, p(79), 29, p(0), 21, p(3, 0), 228);
        moves("224 turned by FLIP", 1, 50, 40, zero, p(1, 1), 224);
        moves("224 without FLIP", 1, -50, 40, 78, zero, p(1, 1), 224);
        moves("224 with FLIP again", 1, 50, 40, 78, 77, zero, p(1, 1), 224);
        moves("232", 1, 64, 40, zero, p(1, 1), 232);
        moves("240 sets RP0", 2, 100 - 40, 200, zero, p(1, 0), 240, p(2), 192);
        moves("224 leaves RP0", 2, 60, 200, zero, p(1, 3), 224, p(2), 192);
        fails("224 of no CVT", 6, p(1, 4), 224);
        fails("63 of no CVT", 6, p(1, -1), 63);
    }

    private static void bySingle() {
        byte[] zero = FontKit.prog(p(0), 47);
        // SINGLE 90 (scaled: 90), d is 100.
        moves("192 within SINGLE CUT", 1, 90, 40, p(90), 31, p(11), 30, zero, p(1), 192);
        moves("192 at just SINGLE CUT", 1, 100, 40, p(90), 31, p(10), 30, zero, p(1), 192);
        moves("192 with SINGLE below 0", 1, 90, 40, p(-90), 31, p(11), 30, zero, p(1), 192);
        moves("192 with d below 0", 0, 110 - 90, 20, p(90), 31, p(11), 30, p(1), 46, p(0), 192);
        moves("224 within SINGLE CUT", 1, 90, 40, p(90), 31, p(11), 30, zero, p(1, 0), 224);
        moves("224, e below 0", 1, -45, 40, 78, p(45), 31, p(6), 30, zero, p(1, 1), 224);
    }

    private static void twilight() {
        byte[] z0 = FontKit.prog(p(0), 19);
        byte[] z1 = FontKit.prog(p(0), 20);
        gives("62 of zone 0", 100, z0, p(2, 0), 62, p(0), 21, p(2), 70);
        gives("62 of zone 0, ORIGINAL", 100, z0, p(2, 0), 62, p(0), 21, p(2), 71);
        gives("63 of zone 0", 128, z0, p(2, 0), 63, p(0), 21, p(2), 70);
        gives("63 of zone 0, ORIGINAL", 100, z0, p(2, 0), 63, p(0), 21, p(2), 71);
        gives("58 of zone 0", 10 + 77, z1, p(2, 77), 58, p(0), 21, p(2), 70);
        gives("58 of zone 0, ORIGINAL", 10 + 77, z1, p(2, 77), 58, p(0), 21, p(2), 71);
        gives("58 of zone 0, the reference was moved", 77, p(0), 47, z1, p(2, 77), 58, p(0), 21, p(2), 70);
        gives("58 of zone 0, ORIGINAL of what was moved", 87, p(0), 47, z1, p(2, 77), 58, p(0), 21, p(2), 71);
        gives("58 of zone 0, y of the reference", 20, z1, p(2, 77), 58, p(0), 21, 2, p(2), 70);
        gives("224 of zone 0", 110, z1, p(2, 0), 224, p(0), 21, p(2), 70);
        gives("228 of zone 0, ORIGINAL", 110, z1, p(2, 0), 228, p(0), 21, p(2), 71);
        gives("228 of zone 0", 138, z1, p(2, 0), 228, p(0), 21, p(2), 70);
        gives("224 of zone 0, below 0", -40, z1, p(2, 1), 224, p(0), 21, p(2), 70);
        gives("228 of two zones does not ask CUT", 138, p(0), 29, z1, p(2, 3), 228, p(0), 21, p(2), 70);
        gives("72 of zone 0, ORIGINAL", 33, p(0), 21, p(1, 33), 72, p(1), 71);
        gives("72 of zone 1, ORIGINAL", 110, p(1, 33), 72, p(1), 71);
        gives("72 of zone 1", 33, p(1, 33), 72, p(1), 70);
        gives("54 of zone 0", 18, p(1), 47, p(1), 18, p(0), 54, p(0), 21, p(3), 70);
        fails("point 4 of zone 0", 5, z0, p(4), 46);
        HintHouse house = made(p(0), 22, p(3, 500), 72);
        Check.due("the size's own twilight points stay", house.held(2, 3), 0);
    }

    private static void filling() {
        // In x 0 goes from 10 to 0, 1 from 110 to 128; 2 lies between: 60 of 100 by 128.
        HintHouse both = made(p(0), 47, p(1), 47, 49);
        at("49, between", both, 2, 77, 200);
        at("49, an untouched contour", both, 3, 30, 30);
        HintHouse one = made(p(1), 47, 49);
        at("49, one touched", one, 0, 28, 20);
        at("49, one touched", one, 2, 88, 200);
        HintHouse y = made(0, p(1), 47, 48);
        at("48, one touched", y, 2, 70, 224);
        at("48 leaves x", y, 1, 110, 64);
        at("48 does not see x", made(p(1), 47, 48), 0, 10, 20);
        // 2 at 70 and 1 at 110 touched: 0 at 10 lies below both and goes with 2.
        at("49, below", made(p(2), 47, p(1, 3), 56, 49), 0, 4, 20);
        at("49, above", made(p(2), 47, p(0, 5), 56, 49), 1, 104, 40);
        // 0 from 10 to 40, 1 from 110 to 128: 60 of 100 by 88 are 53.
        at("49, between moved ones", made(p(0, 30), 56, p(1), 47, 49), 2, 93, 200);
        secondContour();
    }

    /** Points 3 to 6 are 10, 0; 50, 0; 90, 0; 90, 60; of these 3 and 5 are touched. */
    private static void secondContour() {
        FontKit kit = new FontKit().addEmpty();
        kit.add(400, 0, FontKit.simple(0, FontKit.prog(p(3, 8), 56, p(5, -16), 56, 49),
            p(10, 20, 1, 110, 40, 1, 70, 200, 0), p(10, 0, 1, 50, 0, 1, 90, 0, 1, 90, 60, 1), p(7, 7, 1, 8, 9, 1)));
        HintHouse house = kit.sized(10);
        Check.due("make(1)", house.make(1), 9);
        at("49, the contour before", house, 1, 110, 40);
        at("49, touched", house, 3, 18, 0);
        at("49, halfway", house, 4, 46, 0);
        at("49, touched", house, 5, 74, 0);
        at("49, around", house, 6, 74, 60);
        at("49, the contour behind", house, 7, 7, 7);
        at("49, the contour behind", house, 8, 8, 9);
    }

    private static void telling() {
        gives("70", 110, p(1), 70);
        gives("70 in y", 40, 0, p(1), 70);
        gives("71", 110, p(1), 47, p(1), 71);
        gives("73", 100, p(1, 0), 73);
        gives("73 of what was moved", 118, p(1), 47, p(1, 0), 73);
        gives("74", 100, p(1), 47, p(1, 0), 74);
        gives("74, the other way", -100, p(0, 1), 74);
        gives("the first phantom", 0, p(4), 70);
        gives("the second phantom, rounded", 384, p(5), 70);
        gives("the second phantom, ORIGINAL", 400, p(5), 71);
    }

    private static void turning() {
        HintHouse house = made(p(2), 23, p(0, 2), 128, p(3), 128);
        int[] on = {0, 1, 1, 0};
        for (int i = 0; i < 4; i++) {
            Check.due("128: ON of " + i, house.point(i, 2), on[i]);
        }
        HintHouse off = made(p(1, 3), 130, p(3, 3), 129, p(3, 2), 130, p(99, -99), 129);
        int[] range = {1, 0, 0, 1};
        for (int i = 0; i < 4; i++) {
            Check.due("129, 130: ON of " + i, off.point(i, 2), range[i]);
        }
        fails("128 of a phantom", 5, p(4), 128);
        fails("128 in zone 0", 5, p(0), 19, p(0), 128);
        fails("129 of -1", 5, p(-1, 1), 129);
        fails("130 beyond the points", 5, p(0, 4), 130);
    }

    private static void deltas() {
        moves("93", 1, 118, 40, p(0x18, 1, 1), 93);
        moves("93 in y", 1, 110, 40 - 64, 0, p(0x10, 1, 1), 93);
        moves("93 of another size", 1, 110, 40, p(0x28, 99, 1), 93);
        moves("113", 1, 118, 40, p(-7), 94, p(0x18, 1, 1), 113);
        moves("114", 1, 118, 40, p(-23), 94, p(0x18, 1, 1), 114);
        HintHouse two = made(p(0x18, 1, 0x1f, 2, 2), 93);
        at("93 of two", two, 1, 118, 40);
        at("93 of two", two, 2, 134, 200);
        fails("93 of no point", 5, p(0x18, 6, 1), 93);
        fails("93 of -1", 11, p(-1), 93);
        fails("93 of too few", 1, p(1, 1), 93);
    }

    private static void slanted() {
        // P along 3, 4 (9830, 13107), F along x: q is 9830.
        moves("72 along 3, 4", 3, 30 + 68, 30, p(3, 4), 10, p(3, 3), 70, p(41), 96, 72);
        gives("LONG along 3, 4", 42, p(3, 4), 10, p(3), 70);
        // F and P at right angles: q is 16384.
        moves("F across P", 3, 30 + 64, 30, 2, p(3), 70, p(64), 96, p(3), 35, 72);
        gives("6: from 0 to 1", 16066, p(1, 0), 6, 12, 33);
        gives("6: from 0 to 1, y", 3213, p(1, 0), 6, 12);
        gives("7: turned left", -3213, p(1, 0), 7, 12, 33);
        gives("9: F turned left, y", 16066, p(1, 0), 9, 13);
        gives("8: F", 16066, p(1, 0), 8, 13, 33);
        gives("8 leaves P", 16384, p(1, 0), 8, 12, 33);
        gives("134: P of CURRENT", 16384, 0, p(1, -20), 56, 1, p(1, 0), 134, 12, 33);
        gives("134: D of ORIGINAL", 102, 0, p(1, -20), 56, 1, p(1, 0), 134, p(1, 0), 74);
        gives("135: P turned left", 16384, 0, p(1, -20), 56, 1, p(1, 0), 135, 12);
        gives("6 of one point", 16384, p(1, 1), 6, 12, 33);
    }

    private static void pointFailures() {
        fails("46 of 6", 5, p(6), 46);
        fails("46 of -1", 5, p(-1), 46);
        fails("52 of contour 2", 5, p(2), 52);
        fails("52 of contour -1", 5, p(-1), 52);
        fails("52 with ZP2 0", 5, p(0), 21, p(0), 52);
        fails("54 of zone 2", 5, p(2), 54);
        fails("50 without its reference", 5, p(9), 18, p(0), 50);
        fails("57 without RP1", 5, p(9), 17, p(0), 57);
        fails("60 without RP0", 5, p(9), 16, p(0), 60);
        fails("58 without RP0", 5, p(9), 16, p(0, 0), 58);
        fails("192 without RP0", 5, p(-1), 16, p(0), 192);
        fails("224: RP0 goes before n", 5, p(-1), 16, p(0, 99), 224);
        fails("70 of 6", 5, p(6), 70);
        fails("72 of 6", 5, p(6, 0), 72);
        fails("73 of 6", 5, p(0, 6), 73);
        fails("39 of 6", 5, p(6, 0), 39);
        fails("6 of 6", 5, p(6, 0), 6);
        fails("134 of 6", 5, p(0, 6), 134);
        fails("41 of 6", 5, p(6), 41);
        moves("54 leaves LOOP, 50 takes it", 0, 10, 20, p(2), 23, p(1), 54, p(0, 2), 50);
    }

    /** Twilight points 0 at 300, 350 and 1 at 500, 700; all zone pointers are 1 again. */
    private static byte[] twilightPoints() {
        return FontKit.prog(p(0), 21, p(0, 300), 72, p(1, 500), 72, 0, p(0, 350), 72, p(1, 700), 72, 1, p(1), 21);
    }

    /** As before, with point 1 moved on by 20 in x. */
    private static byte[] movedTwilight() {
        return FontKit.prog(twilightPoints(), p(0), 21, p(1, 20), 56, p(1), 21);
    }

    /** One zone pointer at a time is 0. */
    private static void zonesOfOne() {
        byte[] t = twilightPoints();
        byte[] seen = FontKit.prog(p(0), 21, p(1), 70);
        moves("39 with ZP1 0", 1, 305, 40, t, p(0), 20, p(1, 1), 39);
        moves("39 with ZP0 0", 1, 305, 40, t, p(0), 19, p(1, 1), 39);
        moves("39 with ZP2 0", 1, 60, 40, t, p(0), 21, p(1, 0), 39);
        moves("47 with ZP0 0", 1, 110, 40, t, p(0), 19, p(1), 47);
        gives("47 with ZP0 0", 512, t, p(0), 19, p(1), 47, seen);
        moves("41 with ZP0 0", 0, 0, 20, p(0), 47, p(0), 19, p(0), 41, p(1), 19, p(1), 46, 49);
        moves("56 with ZP2 0", 1, 110, 40, t, p(0), 21, p(1, 9), 56);
        gives("56 with ZP2 0", 509, t, p(0), 21, p(1, 9), 56, seen);
        moves("62 with ZP1 and ZP2 0", 1, 100, 40, t, p(0), 20, p(0), 21, p(1, 0), 62);
        gives("73 with ZP0 0", 390, t, p(0), 19, p(1, 1), 73);
        gives("73 with ZP1 0", -390, t, p(0), 20, p(1, 1), 73);
        gives("73 with ZP2 0", 0, t, p(0), 21, p(1, 1), 73);
        gives("74 with ZP0 0", 390, t, p(0), 19, p(1, 1), 74);
        gives("74 with ZP1 0", -390, t, p(0), 20, p(1, 1), 74);
        gives("93 with ZP0 0", 508, t, p(0), 19, p(0x18, 1, 1), 93, seen);
        moves("93 with ZP1 and ZP2 0", 1, 118, 40, t, p(0), 20, p(0), 21, p(0x18, 1, 1), 93);
        moves("62 sets RP1", 2, 60, 200, p(1, 0), 62, p(2), 51);
        moves("60 leaves LOOP 1", 3, 30, 30, p(3), 16, p(2), 23, p(0, 2), 60, p(3), 60);
        gives("58 of zone 0 in y", 20 + 77, p(0), 20, 0, p(2, 77), 58, p(0), 21, p(2), 71);
        gives("62 of zone 0 in y", 100, p(0), 19, 0, p(2, 0), 62, p(0), 21, p(2), 71);
    }

    private static void zonesOfReferences() {
        byte[] t = twilightPoints();
        byte[] m = movedTwilight();
        byte[] seen = FontKit.prog(p(0), 21, p(1), 70);
        moves("50 with ZP1 0", 2, 90, 200, m, p(0), 20, p(1), 18, p(2), 50);
        moves("51 with ZP0 0", 2, 90, 200, m, p(0), 19, p(1), 17, p(2), 51);
        gives("50 with ZP2 0", 518, t, p(1), 47, p(1), 18, p(0), 21, p(1), 50, seen);
        moves("52 by a point of zone 0", 1, 130, 40, m, p(0), 20, p(1), 18, p(0), 52);
        moves("53 by a point of zone 0", 1, 130, 40, m, p(0), 19, p(1), 17, p(0), 53);
        moves("54 by a point of zone 0", 1, 130, 40, m, p(0), 20, p(1), 18, p(1), 54);
        gives("54 of zone 0 by its own point", 520, m, p(0), 20, p(1), 18, p(0), 54, seen);
        gives("54 of zone 0, another point", 320, m, p(0), 20, p(1), 18, p(0), 54, p(0), 21, p(0), 70);
        moves("57 with ZP0 0", 2, 93, 200, t, p(1, 19), 56, p(0), 19, p(0), 17, p(1), 18, p(2), 57);
        moves("57 with ZP1 0", 2, 73, 200, m, p(0), 20, p(0), 17, p(1), 18, p(2), 57, p(2, 1), 56);
        gives("57 with ZP2 0", 990, t, p(1, 100), 56, p(0), 17, p(1), 18, p(0), 21, p(1), 57, seen);
        moves("58 with ZP0 0", 2, 507, 200, t, p(1), 16, p(0), 19, p(2, 7), 58);
        moves("60 with ZP0 0", 2, 500, 200, t, p(1), 16, p(0), 19, p(2), 60);
        gives("60 with ZP1 0", 10, t, p(0), 20, p(1), 60, seen);
        moves("192 with ZP0 0", 2, 90, 200, m, p(1), 16, p(0), 19, p(2), 192);
        gives("192 with ZP1 0", 490, t, p(0), 47, p(0), 20, p(1), 192, seen);
        moves("224 with ZP0 0", 2, 400, 200, t, p(1), 16, p(0), 19, p(2, 0), 224);
        moves("228 with ZP0 0", 2, 372, 200, t, p(1), 16, p(0), 19, p(2, 0), 228);
        moves("228 with both 1, beyond CUT", 2, 10 + 64, 200, p(9), 29, p(2, 3), 228);
    }

    private static void zonesOfVectors() {
        byte[] t = twilightPoints();
        gives("6 with ZP1 0, x", 9409, t, p(0), 20, p(1, 3), 6, 12, 33);
        gives("6 with ZP1 0, y", 13413, t, p(0), 20, p(1, 3), 6, 12);
        gives("6 with ZP2 0, x", -9409, t, p(0), 21, p(3, 1), 6, 12, 33);
        gives("8 with ZP1 0, y", 13413, t, p(0), 20, p(1, 3), 8, 13);
        gives("134 with ZP1 0, x", 9409, t, p(0), 20, p(1, 3), 134, 12, 33);
        gives("134 with ZP2 0, D", 818, t, p(0), 21, p(3, 1), 134, p(0), 19, p(1, 3), 74, 101);
    }

    /** a / b to the nearest, of two the one farther from 0; a wrapped to 64 bits, what comes out to 32. */
    private static int nearestWrapped(BigInteger a, long b) {
        BigInteger in64 = BigInteger.valueOf(a.longValue());
        BigInteger by = BigInteger.valueOf(Math.abs(b));
        BigInteger size = in64.abs().shiftLeft(1).add(by).divide(by.shiftLeft(1));
        return (in64.signum() * Long.signum(b) < 0 ? size.negate() : size).intValue();
    }

    /**
     * 57 with o and c as told and t 1: twilight point 2, whose LONG is away from point 0's, is moved by
     * o c - away. P, D lie along x, F has Fx, Fy as the direction of x, y.
     */
    private static void interpolates(int o, int c, int away, int[] toward, int fx, int fy) {
        FontKit kit = new FontKit().addEmpty();
        kit.prep = FontKit.prog(p(0), 22, p(1, 1), 72, p(1), FontKit.number(c - 1), 56,
            p(2), FontKit.number(o), 72, p(2), FontKit.number(away - o), 56, p(0), 17, p(1), 18, toward, 11, p(2), 57);
        HintHouse house = kit.sized(10);
        BigInteger d = BigInteger.valueOf(o).multiply(BigInteger.valueOf(c)).subtract(BigInteger.valueOf(away));
        String what = "57: " + o + ", " + c + ", " + away + ", F " + fx + ", " + fy;
        Check.due(what + ", ORIGINAL", house.held(4, 2), o);
        Check.due(what + ", x", house.held(2, 2), away + nearestWrapped(d.multiply(BigInteger.valueOf(fx)), fx));
        Check.due(what + ", y", house.held(3, 2), nearestWrapped(d.multiply(BigInteger.valueOf(fy)), fx));
    }

    /** By d 2^62 and an even Fx the product is 2^63, that is -2^63 in 64 bits. */
    private static void edgesOf64Bits() {
        int least = Integer.MIN_VALUE;
        Check.due("-2^63 by 9830", nearestWrapped(BigInteger.ONE.shiftLeft(63), 9830), -955990686);
        for (int away = -2; away <= 2; away++) {
            interpolates(least, least, away, p(3, 4), 9830, 13107);
            interpolates(least, least, away, p(-3, 4), -9830, 13107);
            interpolates(least, least, away, p(4, 3), 13107, 9830);
            interpolates(least, least, away, p(4, -3), 13107, -9830);
            interpolates(least, least, away, p(-4, -3), -13107, -9830);
            interpolates(least, Integer.MAX_VALUE, away, p(-3, 4), -9830, 13107);
            interpolates(1 << 30, least, away, p(3, 4), 9830, 13107);
            interpolates(12345, -54321, away, p(-3, 4), -9830, 13107);
        }
    }
}

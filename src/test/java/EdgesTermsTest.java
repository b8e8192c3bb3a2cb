/** The edges that "Terms" names: the halves and signs of OVER, what is wrapped to 32 bits, what runs in 64. */
public final class EdgesTermsTest {
    private static final int LEAST = Integer.MIN_VALUE;
    private static final int MOST = Integer.MAX_VALUE;

    public static void main(String[] args) {
        halvesOnTheStack();
        halvesOfScaled();
        halvesOfLong();
        halvesOfMoving();
        halvesOfParts();
        differencesAreWrapped();
        longsAreWrapped();
        stackIsWrapped();
        cvtAndSettingsAreWrapped();
        pointsAreWrapped();
        distancesRunIn64();
        sizesRunIn64();
        Check.done();
    }

    private static int[] p(int... values) {
        return values;
    }

    private static byte[] n(int v) {
        return FontKit.number(v);
    }

    /** TWILIGHT point i at x, y, ORIGINAL and CURRENT; all vectors lie along x behind it. */
    private static byte[] plant(int i, int x, int y) {
        return FontKit.prog(p(0), 22, 1, p(i), n(x), 72, 0, p(i), n(y), 72, 1);
    }

    /** "a OVER b: the whole number nearest to a / b, of two the one farther from 0", by 99. */
    private static void halvesOnTheStack() {
        int[][] due = {{0, 0}, {31, 0}, {32, 1}, {33, 1}, {95, 1}, {96, 2}, {97, 2},
            {-31, 0}, {-32, -1}, {-33, -1}, {-95, -1}, {-96, -2}, {-97, -2}};
        for (int[] pair : due) {
            Prep.gives(pair[0] + " OVER 64", pair[1], p(pair[0], 1), 99);
            Prep.gives(-pair[0] + " OVER 64, the other sign", -pair[1], p(pair[0], -1), 99);
        }
    }

    /** The same by SCALED: 64 of 16384 at PPEM 10 are 2.5. */
    private static void halvesOfScaled() {
        FontKit kit = Prep.kit(p(4, 64), 112, p(5, -64), 112);
        kit.units = 16384;
        kit.cvt = FontKit.words(64, -64, 63, -63, 0, 0, 65, -65);
        HintHouse house = kit.sized(10);
        int[] due = {3, -3, 2, -2, 3, -3, 3, -3};
        for (int i = 0; i < due.length; i++) {
            Check.due("CVT " + i + " of halves", house.held(0, i), due[i]);
        }
    }

    /** The same by LONG along 3, 4, that is 9830, 13107: 4096 times 9830 is 2457.5 times 16384. */
    private static void halvesOfLong() {
        Prep.gives("a LONG of 2457.5", 2458, plant(1, 4096, 0), p(3, 4), 10, p(1), 70);
        Prep.gives("a LONG of -2457.5", -2458, plant(1, -4096, 0), p(3, 4), 10, p(1), 70);
        Prep.gives("a LONG of ORIGINAL of 2457.5", 2458, plant(1, 4096, 0), p(3, 4), 10, p(1), 71);
        Prep.gives("a LONG of two of -2457.5", -2458, plant(1, 4096, 0), p(3, 4), 10, p(0, 1), 73);
        // 2457.5 and 819.1875 (1024 times 13107) are rounded together, not each for itself.
        Prep.gives("x and y are rounded together", 3277, plant(1, 4096, 1024), p(3, 4), 10, p(1), 70);
    }

    /** "CURRENT x grows by d Fx / q, y by d Fy / q (nearest, as OVER, by the signs)": 4915 13107 / 9830 is 6553.5. */
    private static void halvesOfMoving() {
        int[][] due = {{4915, 3, 6554}, {-4915, 3, -6554}, {4915, -3, -6554}, {-4915, -3, 6554}, {4914, 3, 6552}};
        for (int[] row : due) {
            HintHouse house = Prep.ran("moved by halves", p(0), 22, p(row[1], 4), 11, p(1, row[0]), 72);
            Check.due("x, moved by " + row[0] + " along " + row[1], house.held(2, 1), row[0]);
            Check.due("y, moved by " + row[0] + " along " + row[1], house.held(3, 1), row[2]);
        }
        // 56 goes by OVER 16384: 2457.5 and 3276.75.
        HintHouse house = Prep.ran("56", p(0), 22, p(3, 4), 11, p(1, 4096), 56, p(2, -4096), 56);
        Check.due("56: x of 2457.5", house.held(2, 1), 2458);
        Check.due("56: y of 3276.75", house.held(3, 1), 3277);
        Check.due("56: x of -2457.5", house.held(2, 2), -2458);
        Check.due("56: y of -3276.75", house.held(3, 2), -3277);
    }

    /** "x becomes (x a + y c) OVER 16384". */
    private static void halvesOfParts() {
        FontKit kit = new FontKit().addEmpty();
        kit.add(0, 0, FontKit.simple(0, new byte[0], p(1, 3, 1, -1, -3, 1, 5, -5, 1)));
        kit.add(0, 0, FontKit.composed(0, FontKit.part(2 + 8, 1, 0, 0, 8192)));
        kit.add(0, 0, FontKit.composed(0, FontKit.part(2 + 128, 1, 0, 0, 8192, -8192, 16384, 8192)));
        HintHouse house = kit.sized(10);
        house.make(2);
        int[] half = {1, 2, -1, -2, 3, -3};
        house = due("half of it", house, half);
        house.make(3);
        // x / 2 + y: 3.5, -3.5, -2.5; y / 2 - x / 2: 1, -1, -5.
        due("four numbers", house, p(4, 1, -4, -1, -3, -5));
    }

    private static HintHouse due(String what, HintHouse house, int[] places) {
        for (int i = 0; i < places.length; i++) {
            Check.due(what + ": point(" + i / 2 + ", " + i % 2 + ")", house.point(i / 2, i % 2), places[i]);
        }
        return house;
    }

    /** "The difference of two x, or two y ... are wrapped to 32 bits with sign". */
    private static void differencesAreWrapped() {
        byte[] apart = FontKit.prog(plant(1, MOST, 5), plant(2, -1, 5));
        byte[] above = FontKit.prog(plant(1, 5, MOST), plant(2, 5, -1));
        Prep.gives("x by 73", LEAST, apart, p(1, 2), 73);
        Prep.gives("x by 73, the other way", LEAST, apart, p(2, 1), 73);
        Prep.gives("x by 74", LEAST, apart, p(1, 2), 74);
        Prep.gives("y by 73", LEAST, above, 0, p(1, 2), 73);
        Prep.gives("y by 74", LEAST, above, 0, p(1, 2), 74);
        Prep.gives("x by 6", -16384, apart, p(1, 2), 6, 12, 33);
        Prep.gives("y by 6", -16384, above, p(1, 2), 6, 12);
        Prep.gives("y by 134, D", LEAST, above, p(1, 2), 134, p(2, 1), 74);
        HintHouse half = Prep.ran("39", apart, p(2, 1), 39);
        Check.due("39: p goes half of -2^31", half.held(2, 2), -1 - (1 << 30));
        Check.due("39: q goes the other way", half.held(2, 1), MOST + (1 << 30));
        // The REFERENCE goes from 2^31 - 1 to -2^31, that is by 1.
        HintHouse moved = Prep.ran("50", plant(1, MOST, 0), p(1, 1), 56, p(1), 18, p(3), 50);
        Check.due("50: CURRENT less ORIGINAL", moved.held(2, 3), 1);
        // From -2^31 to 0 it is -2^31, too: MOVED by 2^31 along 3, 4, y grows by 2^31 13107 / 9830, 2863384351.
        HintHouse aligned = Prep.ran("60", plant(2, LEAST, 0), p(2), 16, p(3, 4), 11, p(1), 60);
        Check.due("60 along 3, 4: x", aligned.held(2, 1), LEAST);
        Check.due("60 along 3, 4: y", aligned.held(3, 1), -1431582945);
    }

    /** "each LONG (6) are wrapped to 32 bits": 2 times 2^31 - 1 times 11585 / 16384 is 3036938239. */
    private static void longsAreWrapped() {
        byte[] far = FontKit.prog(plant(1, MOST, MOST), p(1, 1), 10);
        Prep.gives("70", -1258029057, far, p(1), 70);
        Prep.gives("71", -1258029057, far, p(1), 71);
        Prep.gives("73", -1258029057, far, p(1, 0), 73);
        Prep.gives("74", -1258029057, far, p(1, 0), 74);
        Prep.gives("70 of the least", 1258029056, plant(1, LEAST, LEAST), p(1, 1), 10, p(1), 70);
        // To LONG 0 it goes by 1258029057, not by -3036938239: F along x, q is 11585.
        HintHouse house = Prep.ran("72", far, p(1, 0), 72);
        Check.due("72 by the wrapped LONG", house.held(2, 1), (int) (MOST + Math.round(1258029057.0 * 16384 / 11585)));
    }

    /** "what is kept of it (on the STACK, ...) is wrapped likewise". */
    private static void stackIsWrapped() {
        Prep.gives("the greatest and 1", LEAST, n(MOST), p(1), 96);
        Prep.gives("the least less 1", MOST, n(LEAST), p(1), 97);
        Prep.gives("the least less the greatest", 1, n(LEAST), n(MOST), 97);
        Prep.gives("the greatest 64 by 1", -64, n(MOST), p(1), 98);
        Prep.gives("the greatest 64 by 64", MOST, n(MOST), p(64), 98);
        Prep.gives("the least 64 by -1", 0, n(LEAST), p(-1), 98);
        Prep.gives("the least 64 by -64", LEAST, n(LEAST), p(-64), 98);
        Prep.gives("the greatest by itself", -67108864, n(MOST), n(MOST), 99);
        Prep.gives("the least by itself", 0, n(LEAST), n(LEAST), 99);
        Prep.gives("the greatest by the least", 33554432, n(MOST), n(LEAST), 99);
        Prep.gives("the least's size", LEAST, n(LEAST), 100);
        Prep.gives("the least with the other sign", LEAST, n(LEAST), 101);
        Prep.gives("the greatest with the other sign", -MOST, n(MOST), 101);
        Prep.gives("the greatest, down", MOST - 63, n(MOST), 102);
        Prep.gives("the greatest, up", LEAST, n(MOST), 103);
        Prep.gives("the least, down", LEAST, n(LEAST), 102);
        Prep.gives("the least and 1, down", LEAST, n(LEAST + 1), 102);
        Prep.gives("the least and 1, up", LEAST + 64, n(LEAST + 1), 103);
        Prep.gives("the greatest, ROUNDED", LEAST, n(MOST), 104);
        Prep.gives("the least, ROUNDED", LEAST, n(LEAST), 104);
        Prep.gives("the least, ROUNDED by halves, is -2^31 - 32", MOST - 31, n(LEAST), 25, 104);
        Prep.gives("the least, as it is", LEAST, 122, n(LEAST), 104);
        Prep.gives("the greatest, ROUNDED, is even", 1, n(MOST), 87);
        Prep.gives("the greater of both", MOST, n(LEAST), n(MOST), 139);
        Prep.gives("the lesser of both", LEAST, n(LEAST), n(MOST), 140);
        Prep.gives("the least is below the greatest", 1, n(LEAST), n(MOST), 80);
    }

    /** The same of CVT and settings: at PPEM 48 of UNITS 16 a unit is 192. */
    private static void cvtAndSettingsAreWrapped() {
        FontKit kit = Prep.kit(p(0), n(MOST), 112, p(1), n(LEAST), 112, p(2), n(22369622), 112);
        kit.units = 16;
        HintHouse house = kit.house();
        Check.due("size(48)", house.size(48) > 0 ? 1 : 0, 1);
        Check.due("CVT of the greatest, SCALED", house.held(0, 0), -192);
        Check.due("CVT of the least, SCALED", house.held(0, 1), 0);
        Check.due("CVT of 22369622, SCALED", house.held(0, 2), 128);
        HintHouse grown = Prep.ran("115", p(0), n(MOST), 68, p(0x18, 0, 1), 115, p(1), n(LEAST), 68, p(0x17, 1, 1), 115);
        Check.due("CVT, grown beyond the greatest", grown.held(0, 0), LEAST + 7);
        Check.due("CVT, grown below the least", grown.held(0, 1), MOST - 7);
        // SINGLE 22369622 is 2^32 + 128, kept as 128: within SINGLE CUT 1000 of a LONG of 0.
        FontKit single = Prep.kit(n(22369622), 31, p(1000), 30, p(0), 22, p(1), 192);
        single.units = 16;
        house = single.house();
        Check.due("size(48) with SINGLE", house.size(48) > 0 ? 1 : 0, 1);
        Check.due("SINGLE is kept as 128", house.held(2, 1), 128);
    }

    /** The same of points. */
    private static void pointsAreWrapped() {
        HintHouse house = Prep.ran("points", plant(1, MOST, LEAST), p(1, 1), 56, 0, p(1, -1), 56, 1,
            plant(2, MOST, 0), p(2), 47, plant(3, LEAST, 0), p(3), n(MOST), 56);
        Check.due("x, grown beyond the greatest", house.held(2, 1), LEAST);
        Check.due("y, grown below the least", house.held(3, 1), MOST);
        Check.due("ORIGINAL x stays", house.held(4, 1), MOST);
        Check.due("x, ROUNDED beyond the greatest", house.held(2, 2), LEAST);
        Check.due("x, moved by the greatest", house.held(2, 3), -1);
        HintHouse planted = Prep.ran("58", plant(1, MOST, 3), p(1), 16, p(2, 10), 58);
        Check.due("58 in zone 0 beyond the greatest", planted.held(2, 2), LEAST + 9);
        Check.due("58 in zone 0 beyond the greatest, ORIGINAL", planted.held(4, 2), LEAST + 9);
    }

    /** "all else runs in 64 bits": how far two numbers lie apart, and what a point is MOVED by. */
    private static void distancesRunIn64() {
        byte[] far = FontKit.prog(122, p(0), n(MOST), 68, p(1), n(LEAST), 72);
        Triangle.gives("63: 2^32 - 1 is more than CUT", LEAST, far, p(1, 0), 63, p(1), 70, p(1, 0), 72);
        Triangle.gives("62 goes to CVT", MOST, far, p(1, 0), 62, p(1), 70, p(1, 0), 72);
        // MOVED by 2^32 - 1 along 3, 4: y grows by 5726768701.
        HintHouse house = Prep.ran("72", plant(1, LEAST, 0), p(3, 4), 11, p(1), n(MOST), 72);
        Check.due("72: x", house.held(2, 1), MOST);
        Check.due("72: y", house.held(3, 1), 1431801405);
    }

    /** "the size of SINGLE", "at most -LEAST": sizes of -2^31 are 2^31. */
    private static void sizesRunIn64() {
        byte[] single = FontKit.prog(p(0), 22, n(LEAST), 31, n(MOST), 30);
        HintHouse none = Prep.ran("192", single, p(1), 192);
        Check.due("0 and 2^31 differ by 2^31", none.held(2, 1), 0);
        HintHouse just = Prep.ran("192", plant(1, 1, 0), single, p(1), 192);
        Check.due("1 and 2^31 differ by 2^31 - 1, that is not less", just.held(2, 1), 1);
        HintHouse less = Prep.ran("192", plant(1, 2, 0), single, p(1), 192);
        Check.due("2 and 2^31 differ by less", less.held(2, 1), LEAST);
        HintHouse least = Prep.ran("200", plant(1, -5, 0), n(LEAST), 26, p(1), 200);
        Check.due("-5 is at most 2^31", least.held(2, 1), -5);
        HintHouse above = Prep.ran("200", plant(1, 5, 0), n(LEAST), 26, p(1), 200);
        Check.due("5 is at least -2^31", above.held(2, 1), 5);
    }
}

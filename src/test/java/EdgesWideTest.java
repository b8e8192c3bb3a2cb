/**
 * "The difference of two x, or two y, and each LONG (6) are wrapped to 32 bits with sign; all else runs in
 * 64 bits", code by code. F goes along 3, 4 (9830, 13107) and P along x, so that q is 9830 and y tells by
 * how much a point was MOVED, beyond 32 bits, too.
 */
public final class EdgesWideTest {
    private static final int LEAST = Integer.MIN_VALUE;
    private static final int MOST = Integer.MAX_VALUE;
    private static final long ABOVE = 1L << 31;

    public static void main(String[] args) {
        roundedInTwilight();
        roundedFromCvt();
        longsThatAreWrapped();
        toCvt();
        singles();
        turnedAndRoundedCvt();
        betweenTouched();
        directionsOfOriginals();
        manyDeltas();
        advance();
        Check.done();
    }

    private static int[] p(int... values) {
        return values;
    }

    private static byte[] n(int v) {
        return FontKit.number(v);
    }

    /** F along 3, 4. */
    private static byte[] slanted() {
        return FontKit.prog(p(3, 4), 11);
    }

    /** What y grows by, MOVED by d: the whole number nearest to d 13107 / 9830. */
    private static long rise(long d) {
        long size = (2 * Math.abs(d) * 13107 + 9830) / 19660;
        return d < 0 ? -size : size;
    }

    private static void twilightAt(String what, HintHouse house, int i, long x, long y) {
        Check.due(what + ": x", house.held(2, i), (int) x);
        Check.due(what + ": y", house.held(3, i), (int) y);
    }

    /** TWILIGHT point i at x, 0, ORIGINAL and CURRENT; all vectors lie along x behind it. */
    private static byte[] plant(int i, int x) {
        return FontKit.prog(p(0), 22, 1, p(i), n(x), 72);
    }

    /** y of point 1 of the glyph, and then it goes to 0, 0, so that the glyph is MADE. */
    private static byte[] tellY() {
        return FontKit.prog(2, p(1), 70, 1, p(1, 0), 72, 0, p(1, 0), 72);
    }

    private static byte[] tellX() {
        return FontKit.prog(3, p(1), 70, 1, p(1, 0), 72, 0, p(1, 0), 72);
    }

    /** "47: by ROUNDED LONG less LONG": 2^31 - 1 goes to 2^31, that is by 1; likewise 196, 204. */
    private static void roundedInTwilight() {
        byte[] most = FontKit.prog(plant(2, MOST), slanted());
        twilightAt("47", Prep.ran("47", most, p(2), 47), 2, ABOVE, 1);
        twilightAt("196", Prep.ran("196", most, p(2), 196), 2, ABOVE, 1);
        twilightAt("204, LEAST 64", Prep.ran("204", most, p(2), 204), 2, ABOVE, 1);
        // By halves -2^31 goes to -2^31 - 32.
        byte[] least = FontKit.prog(plant(2, LEAST), slanted(), 25);
        twilightAt("47 down", Prep.ran("47", least, p(2), 47), 2, LEAST - 32L, rise(-32));
        twilightAt("196 down", Prep.ran("196", least, p(2), 196), 2, LEAST - 32L, rise(-32));
        twilightAt("204 down", Prep.ran("204", least, p(2), 204), 2, LEAST - 32L, rise(-32));
    }

    /** 63: CVT 2^31 - 1 is ROUNDED to 2^31; with CUT 2^31 - 1 a LONG of 110 does not differ by more. */
    private static void roundedFromCvt() {
        byte[] set = FontKit.prog(p(0), n(MOST), 68, n(MOST), 29, slanted());
        Triangle.gives("63, ROUNDED beyond the greatest", (int) (40 + rise(ABOVE - 110)), set, p(1, 0), 63, tellY());
        // 228: point 1 lies 100 to the right of RP0, point 0.
        Triangle.gives("228, ROUNDED beyond the greatest", (int) (40 + rise(ABOVE - 100)), set, p(1, 0), 228, tellY());
        Triangle.gives("236, LEAST 64", (int) (40 + rise(ABOVE - 100)), set, p(1, 0), 236, tellY());
    }

    /** A LONG of 3036938239 is -1258029057 (as in EdgesTermsTest), F along x, q 11585. */
    private static void longsThatAreWrapped() {
        byte[] far = FontKit.prog(p(1), n(MOST), 72, 0, p(1), n(MOST), 72, 1, p(1, 1), 10);
        // Brought towards 0 that is -1258029056: by 1, x grows by 1.41.
        Triangle.gives("47", LEAST, far, 125, p(1), 47, tellX());
        long d = 100 + 1258029057L;
        Triangle.gives("62", (int) (MOST + (2 * d * 16384 + 11585) / 23170), far, p(1, 0), 62, tellX());
        // Far from CVT 0, 100, it is taken itself, and stays.
        Triangle.gives("63", MOST, far, 122, p(1, 0), 63, tellX());
    }

    /** 62 from -2^31 to 2^31 - 1: MOVED by 2^32 - 1. */
    private static void toCvt() {
        byte[] far = FontKit.prog(p(0), n(MOST), 68, p(1), n(LEAST), 72, slanted());
        Triangle.gives("62", (int) (40 + rise((1L << 32) - 1)), far, p(1, 0), 62, tellY());
        byte[] from = FontKit.prog(p(1), n(LEAST), 72, slanted(), p(1), n(MOST));
        Triangle.gives("58: LONG less RP0's was -2^31 - 10, wrapped", (int) (40 + rise(MOST - (ABOVE - 10))),
            from, 58, tellY());
        byte[] near = FontKit.prog(p(0, 0), 72, p(1), n(LEAST), 72, slanted(), p(1), n(MOST));
        Triangle.gives("58: from -2^31 to 2^31 - 1", (int) (40 + rise((1L << 32) - 1)), near, 58, tellY());
    }

    /** "the size of SINGLE": that of -2^31 is 2^31, above 0; and that of d, too. */
    private static void singles() {
        byte[] single = FontKit.prog(n(LEAST), 31, n(MOST), 30, slanted());
        twilightAt("192", Prep.ran("192", plant(1, 2), single, p(1), 192), 1, ABOVE, rise(ABOVE - 2));
        twilightAt("192 below 0", Prep.ran("192", plant(1, -2), single, p(1), 192), 1, LEAST, rise(-ABOVE + 2));
        // 224: p gets 2^31 9830 / 16384, 2^31 13107 / 16384 first, then x goes on to 2^31.
        long x = (ABOVE >> 14) * 9830;
        long y = (ABOVE >> 14) * 13107;
        HintHouse house = Prep.ran("224", p(0), 22, single, p(1, 0), 224);
        twilightAt("224", house, 1, ABOVE, y + rise(ABOVE - x));
        Check.due("224: ORIGINAL x", house.held(4, 1), x);
        Check.due("224: ORIGINAL y", house.held(5, 1), y);
        HintHouse least = Prep.ran("192", plant(1, LEAST), p(5), 31, n(MOST), 30, p(1), 192);
        Check.due("2^31 and 5 differ by less than 2^31 - 1: -5", least.held(2, 1), -5);
    }

    /** 224, FLIP: CVT -2^31 with the other sign is 2^31. */
    private static void turnedAndRoundedCvt() {
        byte[] set = FontKit.prog(p(0), n(LEAST), 68, slanted());
        Triangle.gives("224", (int) (40 + rise(ABOVE - 100)), set, p(1, 0), 224, tellY());
        Triangle.gives("224 without FLIP", (int) (40 + rise(LEAST - 100L)), set, 78, p(1, 0), 224, tellY());
    }

    /** 49: point 2 lies at 70 between 10 and 110, "(its ORIGINAL less a's) (b's CURRENT less a's)". */
    private static void betweenTouched() {
        byte[] back = FontKit.prog(p(2), 70, p(0, 0), 72, p(1, 0), 72, p(2, 0), 72);
        // 2^32 - 1 is wrapped to -1: 60 times that by 100 is -0.6.
        Triangle.gives("the difference is wrapped", MOST, p(0), n(LEAST), 72, p(1), n(MOST), 72, 49, back);
        Triangle.gives("the product runs in 64 bits", 644245094, p(0, 0), 72, p(1), n(1 << 30), 72, 49, back);
    }

    /** "The difference of two x, or two y": 2^31 - 1 less -1 goes the other way, in D, too. */
    private static void directionsOfOriginals() {
        byte[] third = FontKit.prog(plant(3, 7), 0, p(3, 9), 72);
        byte[] apart = FontKit.prog(third, plant(1, MOST), plant(2, -1));
        byte[] above = FontKit.prog(third, 0, p(1), n(MOST), 72, p(2, -1), 72);
        Prep.gives("134: D along x", -7, apart, p(1, 2), 134, p(3), 71);
        Prep.gives("135: D along x, turned", -9, apart, p(1, 2), 135, p(3), 71);
        Prep.gives("134: D along y", -9, above, p(1, 2), 134, p(3), 71);
        Prep.gives("135: D along y, turned", 7, above, p(1, 2), 135, p(3), 71);
        Prep.gives("134: P along x", -7, apart, p(1, 2), 134, p(3), 70);
    }

    /** "(n below 0: FAILURE 11; then 1 for 2 n.)": 2 n does not fit into 32 bits, and 1 comes ahead of 5, 6. */
    private static void manyDeltas() {
        int[] counts = {MOST, 1 << 30, (1 << 30) + 1};
        for (int count : counts) {
            byte[] numbers = FontKit.prog(p(0x18, 99), n(count));
            Prep.fails("115 with " + count, 1, numbers.length, numbers, 115);
            Prep.fails("93 with " + count, 1, numbers.length, numbers, 93);
        }
    }

    /** "its second PHANTOM'S x less the first one's": 2^31 - 1 less -1 is -2^31. */
    private static void advance() {
        HintHouse house = Triangle.made("PHANTOMS", p(4, -1), 72, p(5), n(MOST), 72);
        Check.due("the ADVANCE is wrapped", house.told(4), LEAST);
        Triangle.at("by the first PHANTOM", house, 0, 11, 20);
    }
}

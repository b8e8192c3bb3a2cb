import java.util.Arrays;

/** The edges that "3 GLYPHS" names: how many bytes, contours, points, parts, and what lies in them. */
public final class EdgesGlyphsTest {
    public static void main(String[] args) {
        tenBytesAtLeast();
        simpleOrComposed();
        lastPointsRise();
        programOfSimple();
        flagsForAllPoints();
        repeatsWithinThePoints();
        placesOfPoints();
        placesAreAddedUp();
        allInTheBytes();
        glyphsOfParts();
        numbersOfParts();
        scalesOfParts();
        eightParts();
        programOfComposed();
        depth();
        Check.done();
    }

    private static int[] p(int... values) {
        return values;
    }

    /** Glyphs 0 (empty) and 1 (a square), and the one that is looked at. */
    private static FontKit kit(byte[] glyph) {
        return new FontKit().addEmpty().addSquare().add(0, 0, glyph);
    }

    private static void holds(String what, byte[] glyph, boolean holds) {
        Check.due(what, FontKit.loadBytes(kit(glyph).font()), holds ? 3 : -111);
    }

    private static FontKit.Out out(int... values) {
        return new FontKit.Out().u2(values);
    }

    /** "none: it has no points. Else 10 at least". */
    private static void tenBytesAtLeast() {
        for (int length = 0; length <= 14; length++) {
            holds(length + " bytes of 0", new byte[length], length == 0 || length >= 12);
        }
        for (int length = 1; length <= 16; length++) {
            // c of -1, and a part of six bytes.
            holds(length + " bytes of a composed one", Arrays.copyOf(FontKit.composed(0, FontKit.part(2, 0, 0, 0)), length), length >= 16);
        }
        HintHouse house = kit(new byte[0]).house();
        for (int what = 2; what < 8; what++) {
            Check.due("glyph(2, " + what + ") without bytes", house.glyph(2, what), 0);
        }
    }

    /** "SIMPLE with c from 0 to 12 ... COMPOSED with c = -1". */
    private static void simpleOrComposed() {
        for (int c = -3; c <= 14; c++) {
            FontKit.Out glyph = out(c, 0, 0, 0, 0);
            for (int k = 0; k < c; k++) {
                glyph.u2(k);
            }
            if (c == -1) {
                glyph.raw(FontKit.part(2, 0, 0, 0));
            }
            glyph.u2(0).raw(new byte[80]);
            holds("c of " + c, glyph.done(), c >= -1 && c <= 12);
        }
        holds("c of 32767", out(32767, 0, 0, 0, 0).raw(new byte[300]).done(), false);
        holds("c of -32768", out(-32768, 0, 0, 0, 0).raw(new byte[300]).done(), false);
    }

    private static byte[] ends(int... ends) {
        return out(ends.length, 0, 0, 0, 0).u2(ends).u2(0).raw(new byte[500]).done();
    }

    /** "c times U2 the last point of a contour, rising, less than 100 (also of all: the first is 0 at least)". */
    private static void lastPointsRise() {
        holds("0", ends(0), true);
        holds("99", ends(99), true);
        holds("100", ends(100), false);
        holds("65535", ends(65535), false);
        holds("0, 1", ends(0, 1), true);
        holds("0, 0", ends(0, 0), false);
        holds("1, 0", ends(1, 0), false);
        holds("5, 5", ends(5, 5), false);
        holds("98, 99", ends(98, 99), true);
        holds("99, 100", ends(99, 100), false);
        holds("0, 65535, 2", ends(0, 65535, 2), false);
        HintHouse house = kit(ends(99)).sized(10);
        Check.due("make(2) of 100 points", house.make(2), 100);
        Check.due("point(99, 3)", house.point(99, 3), 0);
        Check.due("glyph(2, 5) of 100 points", house.glyph(2, 5), 100);
        HintHouse twelve = kit(ends(0, 1, 2, 3, 4, 5, 6, 7, 8, 9, 10, 99)).sized(10);
        twelve.make(2);
        Check.due("told(5) of 12 contours", twelve.told(5), 12);
        Check.due("point(10, 3)", twelve.point(10, 3), 10);
        Check.due("point(11, 3)", twelve.point(11, 3), 11);
        Check.due("point(99, 3)", twelve.point(99, 3), 11);
    }

    /** "U2 how many bytes its PROGRAM has (400 at most), these". */
    private static void programOfSimple() {
        for (int length : p(0, 1, 399, 400, 401, 402)) {
            byte[] glyph = FontKit.simple(0, new byte[length], FontKit.square(0, 0, 64));
            holds("a program of " + length, glyph, length <= 400);
            if (length <= 400) {
                Check.due("glyph(2, 7) of " + length, kit(glyph).house().glyph(2, 7), length);
                HintHouse house = kit(glyph).sized(10);
                house.make(2);
                Check.due("steps of " + length, house.told(0), length);
            }
        }
        holds("65535 bytes", out(0, 0, 0, 0, 0, 65535).raw(new byte[500]).done(), false);
        for (int there = 0; there <= 6; there++) {
            holds("5 bytes, " + there + " there", out(0, 0, 0, 0, 0, 5).raw(new byte[there]).done(), there >= 5);
        }
        holds("no room for how many", out(0, 0, 0, 0, 0).u1(0).done(), false);
    }

    /** "FLAGS (U1) for all points (the last contour's last one and 1; none with c 0)". */
    private static void flagsForAllPoints() {
        for (int points = 1; points <= 4; points++) {
            for (int there = 0; there <= 5; there++) {
                FontKit.Out glyph = out(1, 0, 0, 0, 0, points - 1, 0);
                for (int k = 0; k < there; k++) {
                    glyph.u1(48);
                }
                holds(there + " flags of " + points, glyph.done(), there >= points);
            }
        }
        holds("none with c 0", out(0, 0, 0, 0, 0, 0).done(), true);
    }

    /** "8 a U1 behind tells how many more points have the flag ... none goes beyond the points". */
    private static void repeatsWithinThePoints() {
        for (int more = 0; more <= 5; more++) {
            FontKit.Out glyph = out(1, 0, 0, 0, 0, 3, 0).u1(56, more);
            for (int k = more + 1; k < 4; k++) {
                glyph.u1(48);
            }
            holds(more + " more of four points", glyph.done(), more <= 3);
        }
        holds("255 more of 100", out(1, 0, 0, 0, 0, 99, 0).u1(56, 255).raw(new byte[200]).done(), false);
        holds("99 more of 100", out(1, 0, 0, 0, 0, 99, 0).u1(56, 99).done(), true);
        holds("100 more of 100", out(1, 0, 0, 0, 0, 99, 0).u1(56, 100).raw(new byte[200]).done(), false);
        holds("the second one's repeats go beyond", out(1, 0, 0, 0, 0, 3, 0).u1(56, 1, 56, 2).raw(new byte[9]).done(), false);
        holds("the second one's repeats just fit", out(1, 0, 0, 0, 0, 3, 0).u1(56, 1, 56, 1).done(), true);
        holds("how many more is not there", out(1, 0, 0, 0, 0, 3, 0).u1(48, 48, 48, 56).done(), false);
        // ON for the first and for its repeats, not for the last.
        HintHouse house = kit(out(1, 0, 0, 0, 0, 3, 0).u1(57, 2, 48).done()).sized(10);
        Check.due("make(2)", house.make(2), 4);
        int[] on = {1, 1, 1, 0};
        for (int i = 0; i < 4; i++) {
            Check.due("ON of " + i, house.point(i, 2), on[i]);
        }
    }

    /** "with bit 2 a U1, taken away without bit 16; else with bit 16 nothing (0), else an S2; then y likewise by 4 and 32". */
    private static void placesOfPoints() {
        int[][] due = {{0x00, 0x1234, 0x1234}, {0x12, 200, 0x1234}, {0x02, -200, 0x1234}, {0x10, 0, 0x1234},
            {0x24, 0x1234, 100}, {0x04, 0x1234, -100}, {0x20, 0x1234, 0}, {0x36, 200, 100}, {0x06, -200, -100}, {0x30, 0, 0}};
        for (int[] row : due) {
            FontKit.Out glyph = out(1, 0, 0, 0, 0, 0, 0).u1(row[0] | 0xc0);
            glyph.raw(number(row[0], 2, 16, 200)).raw(number(row[0], 4, 32, 100));
            FontKit kit = kit(glyph.done());
            kit.units = 6400;
            HintHouse house = kit.sized(10);
            Check.due("make(2), flag " + row[0], house.make(2), 1);
            Check.due("x, flag " + row[0], house.point(0, 0), Math.round(row[1] / 10.0));
            Check.due("y, flag " + row[0], house.point(0, 1), Math.round(row[2] / 10.0));
            holds("flag " + row[0] + " less a byte", cut(glyph.done(), row[0] == 0x30 ? 0 : 1), row[0] == 0x30);
        }
    }

    private static byte[] number(int flag, int isByte, int other, int v) {
        if ((flag & isByte) != 0) {
            return new FontKit.Out().u1(v).done();
        }
        return (flag & other) != 0 ? new byte[0] : new FontKit.Out().u2(0x1234).done();
    }

    private static byte[] cut(byte[] bytes, int by) {
        return Arrays.copyOf(bytes, bytes.length - by);
    }

    /** "all are added up", beyond 16 bits, too. */
    private static void placesAreAddedUp() {
        FontKit.Out glyph = out(1, 0, 0, 0, 0, 2, 0).u1(1, 1, 1).u2(32767, 32767, 32767).u2(-32768, -32768, -32768);
        FontKit kit = kit(glyph.done());
        kit.units = 16384;
        HintHouse house = kit.sized(4);
        Check.due("make(2) of three points", house.make(2), 3);
        for (int i = 0; i < 3; i++) {
            Check.due("x of " + i, house.point(i, 0), Math.round(32767.0 * (i + 1) * 256 / 16384));
            Check.due("y of " + i, house.point(i, 1), -512 * (i + 1));
        }
    }

    /** "All must lie in the glyph's bytes; what is left over counts for nothing". */
    private static void allInTheBytes() {
        byte[] square = FontKit.simple(3, new byte[] {1, 1}, FontKit.square(0, 0, 64), p(5, 5, 1));
        for (int length = 1; length < square.length + 3; length++) {
            holds("the first " + length + " of " + square.length, Arrays.copyOf(square, length), length >= square.length);
        }
        byte[] composed = FontKit.withProgram(FontKit.composed(0, FontKit.part(3 + 32, 1, 0, 0),
            FontKit.part(2 + 8 + 32, 1, 0, 0, 1), FontKit.part(3 + 128 + 256, 1, 0, 0, 1, 2, 3, 4)), 1, 1, 1);
        for (int length = 1; length < composed.length + 3; length++) {
            holds("the first " + length + " of parts", Arrays.copyOf(composed, length), length >= composed.length);
        }
        // Parts of all lengths, each the last one and without a program.
        byte[][] parts = {FontKit.part(2, 1, 0, 0), FontKit.part(3, 1, 0, 0), FontKit.part(3 + 8, 1, 0, 0, 1), FontKit.part(3 + 64, 1, 0, 0, 1, 2),
            FontKit.part(2 + 128, 1, 0, 0, 1, 2, 3, 4), FontKit.part(3 + 128, 1, 0, 0, 1, 2, 3, 4)};
        for (byte[] part : parts) {
            byte[] glyph = FontKit.composed(0, part);
            for (int less = -1; less <= part.length; less++) {
                holds("a last part of " + part.length + " less " + less, Arrays.copyOf(glyph, glyph.length - less), less <= 0);
            }
        }
        HintHouse house = kit(Arrays.copyOf(square, square.length + 7)).house();
        Check.due("glyph(2, 2) with bytes left over", house.glyph(2, 2), square.length + 7);
        Check.due("glyph(2, 5) with bytes left over", house.glyph(2, 5), 5);
    }

    /** "U2 a glyph that there is". */
    private static void glyphsOfParts() {
        for (int g = 0; g <= 4; g++) {
            FontKit kit = new FontKit().addEmpty().add(0, 0, FontKit.composed(0, FontKit.part(2, g, 0, 0)));
            kit.addSquare().addEmpty();
            Check.due("a part of glyph " + g, FontKit.loadBytes(kit.font()), g == 1 || g == 4 ? -111 : 4);
        }
        holds("a part of glyph 65535", FontKit.composed(0, FontKit.part(2, 65535, 0, 0)), false);
        holds("a second part of glyph 3", FontKit.composed(0, FontKit.part(34, 1, 0, 0), FontKit.part(2, 3, 0, 0)), false);
    }

    /** "two numbers (S2 with bit 1, else S1; U2, U1 without bit 2)". */
    private static void numbersOfParts() {
        int[][] due = {{2, 127, -128, 127, -128}, {2, 128, 255, -128, -1}, {3, 3700, -3700, 3700, -3700}, {3, 128, 255, 128, 255}};
        for (int[] row : due) {
            HintHouse house = kit(FontKit.composed(0, FontKit.part(row[0], 1, row[1], row[2]))).sized(10);
            house.make(2);
            Check.due("x by " + row[1], house.point(0, 0), row[3]);
            Check.due("y by " + row[2], house.point(0, 1), row[4]);
        }
        // Without bit 2 they are points, and have no sign.
        FontKit kit = new FontKit().addEmpty();
        int[] dots = new int[3 * 60];
        for (int i = 0; i < 60; i++) {
            dots[3 * i] = i;
        }
        kit.add(0, 0, FontKit.simple(0, new byte[0], dots));
        kit.add(0, 0, FontKit.simple(0, new byte[0], p(5, 0, 1)));
        kit.add(0, 0, FontKit.composed(0, FontKit.part(34, 1, 0, 0), FontKit.part(0, 2, 59, 0)));
        kit.add(0, 0, FontKit.composed(0, FontKit.part(34, 1, 0, 0), FontKit.part(1, 2, 59, 0)));
        kit.add(0, 0, FontKit.composed(0, FontKit.part(34, 1, 0, 0), FontKit.part(0, 2, 200, 0)));
        kit.add(0, 0, FontKit.composed(0, FontKit.part(34, 1, 0, 0), FontKit.part(1, 2, 65535, 0)));
        kit.add(0, 0, FontKit.composed(0, FontKit.part(34, 1, 0, 0), FontKit.part(1, 2, 0, 65535)));
        kit.add(0, 0, FontKit.composed(0, FontKit.part(34, 1, 0, 0), FontKit.part(0, 2, 0, 255)));
        HintHouse house = kit.sized(10);
        for (int g = 3; g <= 4; g++) {
            Check.due("make(" + g + ")", house.make(g), 61);
            Check.due("matched by " + g, house.point(60, 0), 59);
        }
        for (int g = 5; g <= 8; g++) {
            Check.due("make(" + g + "), no such point", house.make(g), -105);
        }
    }

    /** "then one S2 (bit 8), or else two (bit 64), or else four (bit 128), of 1 / 16384". */
    private static void scalesOfParts() {
        int[] bits = {0, 8, 64, 8 + 64, 128, 8 + 128, 64 + 128, 8 + 64 + 128};
        int[] counts = {0, 1, 2, 1, 4, 1, 2, 1};
        for (int k = 0; k < bits.length; k++) {
            for (int count = 0; count <= 4; count++) {
                byte[] part = FontKit.part(2 + bits[k], 1, 0, 0, new int[count]);
                holds(count + " numbers by bits " + bits[k], FontKit.composed(0, part), count >= counts[k]);
            }
        }
        // The least and the greatest: -2 and a little less than 2.
        HintHouse house = kit(FontKit.composed(0, FontKit.part(2 + 64, 1, 0, 0, -32768, 32767))).sized(10);
        house.make(2);
        Check.due("x by -2", house.point(2, 0), -640);
        Check.due("y by 32767 / 16384", house.point(2, 1), 640);
        // Each of them has a sign: x of point 1 is 320, y of point 3 is 320.
        int[][] signs = {{8, -8192, 0, 0, 0, -160, 0, 0, -160}, {64, -8192, 4096, 0, 0, -160, 0, 0, 80}, {64, 8192, -4096, 0, 0, 160, 0, 0, -80},
            {128, -8192, 4096, 2048, 1024, -160, 80, 40, 20}, {128, 8192, -4096, 2048, 1024, 160, -80, 40, 20},
            {128, 8192, 4096, -2048, 1024, 160, 80, -40, 20}, {128, 8192, 4096, 2048, -1024, 160, 80, 40, -20}};
        for (int[] row : signs) {
            int[] numbers = Arrays.copyOfRange(row, 1, row[0] == 8 ? 2 : row[0] == 64 ? 3 : 5);
            HintHouse sign = kit(FontKit.composed(0, FontKit.part(2 + row[0], 1, 0, 0, numbers))).sized(10);
            sign.make(2);
            String what = "by " + Arrays.toString(numbers) + ": ";
            Check.due(what + "x of 1", sign.point(1, 0), row[5]);
            Check.due(what + "y of 1", sign.point(1, 1), row[6]);
            Check.due(what + "x of 3", sign.point(3, 0), row[7]);
            Check.due(what + "y of 3", sign.point(3, 1), row[8]);
        }
        // Numbers of a part do not stay for the next one.
        byte[] four = FontKit.part(34 + 128, 1, 0, 0, 1, 16384, 16384, 1);
        HintHouse next = kit(FontKit.composed(0, four, FontKit.part(34 + 64, 1, 0, 0, 8192, 4096), four,
            FontKit.part(34 + 8, 1, 0, 0, 8192), four, FontKit.part(2, 1, 0, 0))).sized(10);
        Check.due("make(2) of six parts", next.make(2), 24);
        int[][] due = {{6, 160, 80}, {5, 160, 0}, {14, 160, 160}, {13, 160, 0}, {22, 320, 320}, {21, 320, 0}};
        for (int[] row : due) {
            Check.due("x of " + row[0], next.point(row[0], 0), row[1]);
            Check.due("y of " + row[0], next.point(row[0], 1), row[2]);
        }
    }

    /** "another PART follows with bit 32, 8 PARTS at most". */
    private static void eightParts() {
        for (int count = 1; count <= 10; count++) {
            byte[][] parts = new byte[count][];
            for (int k = 0; k < count; k++) {
                parts[k] = FontKit.part(k < count - 1 ? 34 : 2, 0, 0, 0);
            }
            byte[] glyph = FontKit.composed(0, parts);
            holds(count + " parts", glyph, count <= 8);
            if (count <= 8) {
                HintHouse house = kit(glyph).sized(10);
                Check.due("glyph(2, 6) of " + count, house.glyph(2, 6), count);
                Check.due("make(2) of " + count, house.make(2), 0);
            }
        }
        holds("bit 32 without another part", FontKit.composed(0, FontKit.part(34, 0, 0, 0)), false);
    }

    /** "behind the last one, if that has bit 256, U2 how many bytes its PROGRAM has (400 at most), these". */
    private static void programOfComposed() {
        byte[] part = FontKit.composed(0, FontKit.part(2 + 256, 1, 0, 0));
        for (int length : p(0, 1, 400, 401)) {
            byte[] glyph = FontKit.withProgram(part, new byte[length]);
            holds("a program of " + length, glyph, length <= 400);
            if (length <= 400) {
                holds("a program of " + length + " less a byte", cut(glyph, 1), false);
                Check.due("glyph(2, 7) of " + length, kit(glyph).house().glyph(2, 7), length);
            }
        }
        byte[] without = FontKit.composed(0, FontKit.part(2, 1, 0, 0));
        HintHouse house = kit(FontKit.withProgram(without, 33)).sized(10);
        Check.due("glyph(2, 7) without bit 256", house.glyph(2, 7), 0);
        Check.due("make(2) without bit 256", house.make(2), 4);
        byte[] early = FontKit.composed(0, FontKit.part(34 + 256, 1, 0, 0), FontKit.part(2, 1, 0, 0));
        house = kit(FontKit.withProgram(early, 33)).sized(10);
        Check.due("make(2) with bit 256 of another part", house.make(2), 8);
    }

    /** "COMPOSED ones stand in one another at most DEPTH deep (one of SIMPLE and empty ones alone is 1)". */
    private static void depth() {
        for (int depth = 0; depth <= 4; depth++) {
            for (int deep = 0; deep <= 5; deep++) {
                FontKit down = new FontKit().addSquare();
                FontKit up = new FontKit();
                for (int g = 1; g <= deep; g++) {
                    down.add(0, 0, FontKit.composed(0, FontKit.part(2, g - 1, 1, 0)));
                    up.add(0, 0, FontKit.composed(0, FontKit.part(2, g, 1, 0)));
                }
                up.addSquare();
                down.depth = depth;
                down.metrics = 1;
                up.depth = depth;
                int due = deep <= depth ? deep + 1 : -111;
                Check.due(deep + " deep, DEPTH " + depth, FontKit.loadBytes(down.font()), due);
                Check.due(deep + " deep, DEPTH " + depth + ", the other way", FontKit.loadBytes(up.font()), due);
                if (deep <= depth) {
                    HintHouse house = up.sized(10);
                    Check.due("make(0), " + deep + " deep", house.make(0), 4);
                    Check.due("x, " + deep + " deep", house.point(0, 0), deep);
                }
            }
            for (int length = 1; length <= 5; length++) {
                FontKit ring = new FontKit();
                for (int g = 0; g < length; g++) {
                    ring.add(0, 0, FontKit.composed(0, FontKit.part(2, (g + 1) % length, 0, 0)));
                }
                ring.depth = depth;
                Check.due("a ring of " + length + ", DEPTH " + depth, FontKit.loadBytes(ring.font()), -111);
            }
        }
        FontKit empties = new FontKit().addEmpty();
        empties.add(0, 0, FontKit.composed(0, FontKit.part(2, 0, 0, 0)));
        empties.depth = 1;
        Check.due("one of an empty one", FontKit.loadBytes(empties.font()), 2);
        // The deepest part counts, wherever it stands.
        for (int k = 0; k < 3; k++) {
            byte[][] parts = new byte[3][];
            for (int j = 0; j < 3; j++) {
                parts[j] = FontKit.part(j < 2 ? 34 : 2, j == k ? 1 : 0, 0, 0);
            }
            FontKit kit = new FontKit().addEmpty().add(0, 0, FontKit.composed(0, FontKit.part(2, 0, 0, 0)));
            kit.add(0, 0, FontKit.composed(0, parts));
            kit.depth = 1;
            Check.due("the deepest is part " + k + ", DEPTH 1", FontKit.loadBytes(kit.font()), -111);
            kit.depth = 2;
            Check.due("the deepest is part " + k + ", DEPTH 2", FontKit.loadBytes(kit.font()), 3);
        }
    }
}

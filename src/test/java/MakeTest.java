/** Promises 11 and 12: make, point; simple and composed glyphs, phantoms, failures 5, 12, 13. */
public final class MakeTest {
    private static final int[] TRIANGLE = {10, 20, 1, 110, 40, 1, 70, 200, 0};

    public static void main(String[] args) {
        ranges();
        packed();
        scaled();
        phantoms();
        offsets();
        matrices();
        matching();
        programsOfParts();
        tooBig();
        tooFar();
        Check.done();
    }

    private static int[] p(int... values) {
        return values;
    }

    private static void points(String what, HintHouse house, int... due) {
        for (int i = 0; i < due.length / 2; i++) {
            Check.due(what + ": x of " + i, house.point(i, 0), due[2 * i]);
            Check.due(what + ": y of " + i, house.point(i, 1), due[2 * i + 1]);
        }
    }

    private static void ranges() {
        HintHouse none = new HintHouse();
        Check.due("make(-1) of none", none.make(-1), -3);
        HintHouse house = new FontKit().addEmpty().addSquare().sized(10);
        Check.due("point(0, 0) of nothing made", house.point(0, 0), 0);
        Check.due("make(2)", house.make(2), -1);
        Check.due("make(1)", house.make(1), 4);
        Check.due("make(-1)", house.make(-1), -1);
        Check.due("what was made stays", house.point(2, 0), 320);
        Check.due("point(4, 0)", house.point(4, 0), 0);
        Check.due("point(-1, 0)", house.point(-1, 0), 0);
        Check.due("point(2, 4)", house.point(2, 4), 0);
        Check.due("point(2, -1)", house.point(2, -1), 0);
        Check.due("point(2, 2)", house.point(2, 2), 1);
        Check.due("make(0)", house.make(0), 0);
        Check.due("point(0, 0) of an empty glyph", house.point(0, 0), 0);
        house.make(1);
        Check.due("size(10)", house.size(10), 0);
        Check.due("point(2, 0) behind size()", house.point(2, 0), 0);
    }

    /** Flags with repeats, bytes with and without sign, numbers that stay. */
    private static void packed() {
        FontKit.Out out = new FontKit.Out().u2(2, 5, 0, 0, 0, 2, 3, 0);
        out.u1(1 + 2 + 16 + 4 + 32, 8 + 2 + 32, 1, 1 + 16);
        out.u1(200, 50, 40);
        out.u1(9);
        out.u2(-300);
        FontKit kit = new FontKit().addEmpty().add(0, 5, out.done());
        HintHouse house = kit.sized(10);
        Check.due("make(1)", house.make(1), 4);
        points("packed", house, 200, 9, 150, 9, 110, 9, 110, -291);
        int[] on = {1, 0, 0, 1};
        int[] contours = {0, 0, 0, 1};
        for (int i = 0; i < 4; i++) {
            Check.due("ON of " + i, house.point(i, 2), on[i]);
            Check.due("contour of " + i, house.point(i, 3), contours[i]);
        }
        Check.due("told(5)", house.told(5), 2);
    }

    private static void scaled() {
        FontKit kit = new FontKit().addEmpty().add(0, 0, FontKit.simple(0, new byte[0], p(1, -1, 1, 3, -3, 1, 2, -2, 1)));
        kit.units = 512;
        HintHouse house = kit.sized(4);
        Check.due("make(1)", house.make(1), 3);
        points("halves go away from 0", house, 1, -1, 2, -2, 1, -1);
    }

    private static void phantoms() {
        FontKit kit = new FontKit();
        kit.add(100, -30, new byte[0]);
        kit.add(100, -30, FontKit.simple(5, new byte[0], TRIANGLE));
        kit.add(100, -30, FontKit.simple(5, FontKit.prog(1), TRIANGLE));
        kit.add(100, -30, FontKit.simple(5, FontKit.prog(p(3, 7), 56, p(4, 9), 56), TRIANGLE));
        kit.add(100, -27, new FontKit.Out().u2(0, 5, 0, 0, 0, 1).u1(1).done());
        HintHouse house = kit.sized(10);
        Check.due("make(0)", house.make(0), 0);
        Check.due("advance of an empty one", house.told(4), 100);
        house.make(1);
        Check.due("advance", house.told(4), 100);
        points("moved by LEFT less BEARING", house, -25, 20, 75, 40, 35, 200);
        // With a program 35 and 135 are rounded to 64 and 128.
        house.make(2);
        Check.due("advance, rounded", house.told(4), 64);
        points("moved by the rounded phantom", house, -54, 20, 46, 40, 6, 200);
        house.make(3);
        Check.due("advance, moved", house.told(4), 66);
        points("moved by the moved phantom", house, 10 - 71, 20);
        // 32 is a half: it goes up.
        Check.due("make(4)", house.make(4), 0);
        Check.due("advance of halves", house.told(4), 128 - 64);
        kit.units = 512;
        house = kit.sized(4);
        house.make(1);
        Check.due("the sum is scaled, not its parts", house.told(4), 68 - 18);
    }

    private static FontKit parts(byte[] composed) {
        FontKit kit = new FontKit().addEmpty();
        kit.add(90, 0, FontKit.simple(0, new byte[0], p(0, 0, 1, 50, 0, 0, 50, 20, 1)));
        kit.add(300, 7, composed);
        return kit;
    }

    private static HintHouse made(byte[] composed, int due) {
        HintHouse house = parts(composed).sized(10);
        Check.due("make(2)", house.make(2), due);
        return house;
    }

    private static void offsets() {
        HintHouse house = made(FontKit.composed(7,
            FontKit.part(2 + 32, 1, 5, -6), FontKit.part(3 + 32, 1, 300, -300), FontKit.part(2 + 4, 1, 31, -32)), 9);
        points("offsets", house, 5, -6, 55, -6, 55, 14, 300, -300, 350, -300, 350, -280, 0, 0, 50, 0, 50, 20);
        Check.due("contours", house.told(5), 3);
        Check.due("contour of 5", house.point(5, 3), 1);
        Check.due("contour of 6", house.point(6, 3), 2);
        Check.due("ON of 4", house.point(4, 2), 0);
        Check.due("advance", house.told(4), 300);
        points("rounded offsets", made(FontKit.composed(7, FontKit.part(2 + 4, 1, 32, -33)), 3), 64, -64);
        HintHouse own = made(FontKit.composed(7, FontKit.part(2 + 512, 1, 5, 0)), 3);
        Check.due("bit 512", own.told(4), 90);
        HintHouse empty = made(FontKit.composed(7, FontKit.part(2, 0, 5, 0)), 0);
        Check.due("a part without points", empty.told(5), 0);
    }

    private static void matrices() {
        points("one", made(FontKit.composed(7, FontKit.part(2 + 8, 1, 1, 2, 8192)), 3), 1, 2, 26, 2, 26, 12);
        points("two", made(FontKit.composed(7, FontKit.part(2 + 64, 1, 0, 0, 8192, -16384)), 3), 0, 0, 25, 0, 25, -20);
        points("four", made(FontKit.composed(7, FontKit.part(2 + 128, 1, 0, 0, 0, 16384, -16384, 0)), 3),
            0, 0, 0, 50, -20, 50);
        points("halves", made(FontKit.composed(7, FontKit.part(2 + 8, 1, 0, 0, -328)), 3), 0, 0, -1, 0, -1, 0);
        points("8 before 64", made(FontKit.composed(7, FontKit.part(2 + 8 + 64, 1, 0, 0, 8192)), 3), 0, 0, 25, 0, 25, 10);
    }

    private static void matching() {
        points("matched", made(FontKit.composed(7, FontKit.part(2 + 32, 1, 5, 6), FontKit.part(0, 1, 2, 1)), 6),
            5, 6, 55, 6, 55, 26, 5, 26, 55, 26, 55, 46);
        byte[] first = FontKit.part(2 + 32, 1, 5, 6);
        points("matched, scaled first", made(FontKit.composed(7, first, FontKit.part(8, 1, 0, 2, 8192)), 6),
            5, 6, 55, 6, 55, 26, -20, -4, 5, -4, 5, 6);
        made(FontKit.composed(7, first, FontKit.part(1, 1, 3, 0)), -105);
        made(FontKit.composed(7, first, FontKit.part(0, 1, 0, 3)), -105);
        made(FontKit.composed(7, first, FontKit.part(0, 1, 255, 0)), -105);
        made(FontKit.composed(7, FontKit.part(0, 1, 0, 0)), -105);
        HintHouse house = made(FontKit.composed(7, first, FontKit.part(0, 0, 0, 0)), -105);
        Check.due("told(2)", house.told(2), 5);
        Check.due("told(3) in no program", house.told(3), -1);
    }

    private static void programsOfParts() {
        FontKit kit = new FontKit().addEmpty();
        // Glyph 1 moves its first point to 64 and leaves STORAGE 0, CVT 0 and SCAN changed.
        kit.cvt = FontKit.words(11);
        kit.add(90, 0, FontKit.simple(0, FontKit.prog(p(0, 0), 66, p(0), 67, p(3), 96, 133, p(0, 99), 66, p(0, 99), 68,
            p(0, 64), 72, p(4), 47, p(4, 40), 56, p(0), 128), p(0, 0, 1, 50, 0, 0, 50, 20, 1)));
        byte[] composed = FontKit.composed(7, FontKit.part(2 + 32, 1, 100, 0), FontKit.part(2 + 256 + 512, 1, 0, 0));
        kit.add(300, 7, FontKit.withProgram(composed, p(0), 67, p(0), 69, 96, 133, p(5, 30), 72, p(0), 70, 141));
        kit.add(300, 7, FontKit.composed(7, FontKit.part(2, 1, 0, 0)));
        HintHouse house = kit.sized(10);
        Check.due("make(2)", house.make(2), 6);
        points("parts made by their programs", house, 164, 0, 150, 0, 150, 20, 64, 0, 50, 0, 30, 20);
        Check.due("STORAGE and CVT as the size left them", house.told(7), 11);
        Check.due("ORIGINAL is what the parts became", house.told(8), 164);
        Check.due("ON as the part's program left it", house.point(0, 2), 0);
        // The part's second phantom: 90 to 64 by the beginning, by 47 nothing, 104 by 56, and rounded again.
        Check.due("advance of the part's phantoms", house.told(4), 128);
        Check.due("steps of all", house.told(0), 2 * 19 + 11);
        house.make(3);
        Check.due("told(7) without a program of its own", house.told(7), 0);
        Check.due("told(0)", house.told(0), 19);
        Check.due("advance", house.told(4), 300);
    }

    private static byte[] dots(int contours, int each) {
        int[][] all = new int[contours][];
        for (int k = 0; k < contours; k++) {
            all[k] = new int[3 * each];
        }
        return FontKit.simple(0, new byte[0], all);
    }

    private static void many(String what, int due, int count, byte[] glyph) {
        FontKit kit = new FontKit().add(0, 0, glyph);
        byte[][] parts = new byte[count][];
        for (int k = 0; k < count; k++) {
            parts[k] = FontKit.part(k < count - 1 ? 34 : 2, 0, 0, 0);
        }
        kit.add(0, 0, FontKit.composed(0, parts));
        HintHouse house = kit.sized(10);
        Check.due(what, house.make(1), due);
        Check.due(what + ": told(2)", house.told(2), due < 0 ? -100 - due : 0);
        Check.due(what + ": told(3)", house.told(3), -1);
    }

    private static void tooBig() {
        many("100 points", 100, 2, dots(1, 50));
        many("102 points", -112, 2, dots(1, 51));
        many("20 contours", 20, 2, dots(10, 1));
        many("22 contours", -112, 2, dots(11, 1));
        nested("7 parts of 8 parts are 63", -112, 7, 8);
        nested("6 parts of 8 parts are 54", 0, 6, 8);
        FontKit kit = new FontKit().addEmpty();
        kit.add(0, 0, partsOf(0, 8));
        kit.add(0, 0, partsOf(1, 6));
        byte[] sixty = FontKit.composed(0, FontKit.part(34, 2, 0, 0), FontKit.part(34, 0, 0, 0),
            FontKit.part(34, 0, 0, 0), FontKit.part(34, 0, 0, 0), FontKit.part(34, 0, 0, 0), FontKit.part(2, 0, 0, 0));
        kit.add(0, 0, sixty);
        byte[] more = FontKit.composed(0, FontKit.part(34, 2, 0, 0), FontKit.part(34, 0, 0, 0),
            FontKit.part(34, 0, 0, 0), FontKit.part(34, 0, 0, 0), FontKit.part(34, 0, 0, 0), FontKit.part(34, 0, 0, 0),
            FontKit.part(2, 0, 0, 0));
        kit.add(0, 0, more);
        kit.depth = 3;
        HintHouse house = kit.sized(10);
        Check.due("60 parts", house.make(3), 0);
        Check.due("61 parts", house.make(4), -112);
        Check.due("61 parts: told(3)", house.told(3), -1);
    }

    private static byte[] partsOf(int g, int count) {
        byte[][] parts = new byte[count][];
        for (int k = 0; k < count; k++) {
            parts[k] = FontKit.part(k < count - 1 ? 34 : 2, g, 0, 0);
        }
        return FontKit.composed(0, parts);
    }

    private static void nested(String what, int due, int outer, int inner) {
        FontKit kit = new FontKit().addEmpty();
        kit.add(0, 0, partsOf(0, inner));
        kit.add(0, 0, partsOf(1, outer));
        Check.due(what, kit.sized(10).make(2), due);
    }

    private static void far(String what, int due, int x, int y, Object... program) {
        FontKit kit = new FontKit().addEmpty();
        kit.add(0, 0, FontKit.simple(0, FontKit.prog(program), p(x, y, 1)));
        HintHouse house = kit.sized(10);
        Check.due(what, house.make(1), due);
        Check.due(what + ": told(3)", house.told(3), -1);
    }

    private static void tooFar() {
        far("4096", 1, 4096, -4096);
        far("4097 in x", -113, 4097, 0);
        far("-4097 in y", -113, 0, -4097);
        far("5000, moved back", 1, 5000, 0, p(0, -1000), 56);
        far("4000, moved away", -113, 4000, 0, p(0, 97), 56);
        far("moved to the left by the phantom", 1, 4097, 0, p(1, 64), 56);
        far("moved to the left too far", -113, -4095, 0, p(1, 64), 56);
        FontKit kit = new FontKit().addEmpty();
        kit.units = 16;
        kit.add(0, 0, FontKit.simple(0, FontKit.prog(p(0, 0), 72), p(31250, 0, 1)));
        kit.add(0, 0, FontKit.simple(0, FontKit.prog(p(0, 0), 72), p(31251, 0, 1)));
        kit.add(0, 0, FontKit.simple(0, FontKit.prog(0, p(0, 0), 72), p(0, -31251, 1)));
        kit.add(0, 0, FontKit.composed(0, FontKit.part(2 + 8, 2, 0, 0, 0)));
        HintHouse house = kit.sized(8);
        Check.due("1000000 ahead of its program", house.make(1), 1);
        Check.due("1000032 ahead of its program", house.make(2), -113);
        Check.due("1000032 ahead of its program: told(0)", house.told(0), 0);
        Check.due("-1000032 in y", house.make(3), -113);
        Check.due("in a part", house.make(4), -113);
        Check.due("nothing is made", house.isIn(0, 0), -3);
        Check.due("failures so far", house.told(1), 3);
    }
}

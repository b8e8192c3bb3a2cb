/** Promises 5, 6, 8, 9: font, table, glyph, kern. */
public final class FactsTest {
    public static void main(String[] args) {
        FontKit kit = kit();
        HintHouse none = new HintHouse();
        Check.due("font(-1) of none", none.font(-1), -3);
        Check.due("table(-1, -1) of none", none.table(-1, -1), -3);
        Check.due("glyph(-1, -1) of none", none.glyph(-1, -1), -3);
        Check.due("kern(-1, -1) of none", none.kern(-1, -1), -3);
        HintHouse house = kit.house();
        fontFacts(kit, house);
        tableFacts(kit, house);
        glyphFacts(house);
        kerns(house);
        Check.done();
    }

    private static FontKit kit() {
        FontKit kit = new FontKit();
        kit.metrics = 2;
        kit.add(500, -7, new byte[0]);
        kit.add(65535, 12, FontKit.simple(-30, new byte[] {0, 1, 0}, FontKit.square(-30, 0, 90), new int[] {1, 2, 0}));
        kit.add(9, -2, FontKit.withProgram(FontKit.composed(-3,
            FontKit.part(2 + 32, 1, 0, 0), FontKit.part(2 + 256, 0, 0, 0)), 0, 1));
        kit.add(9, 32767, new FontKit.Out().u2(0, 6, 0, 0, 0, 0).u1(1).done());
        kit.kern = FontKit.kerns(0, 1, -40, 1, 1, 32767, 1, 2, -1, 3, 3, -3, 3, 4, 9);
        kit.cvt = FontKit.words(1, 2, 3);
        return kit;
    }

    private static void fontFacts(FontKit kit, HintHouse house) {
        long[] due = {640, 4, 2, 1, 9, 12, 5, 3, 1, kit.font().length};
        for (int what = 0; what < 10; what++) {
            Check.due("font(" + what + ")", house.font(what), due[what]);
        }
        Check.due("font(10)", house.font(10), -2);
        Check.due("font(-1)", house.font(-1), -2);
        FontKit plain = new FontKit().addEmpty();
        plain.form = 0;
        plain.units = 2048;
        HintHouse other = plain.house();
        long[] less = {2048, 1, 1, 0, 7, 12, 0, 0, 1, plain.font().length};
        for (int what = 0; what < 10; what++) {
            Check.due("font(" + what + ") of a plain one", other.font(what), less[what]);
        }
    }

    private static void tableFacts(FontKit kit, HintHouse house) {
        byte[] font = kit.font();
        for (int k = 0; k < 9; k++) {
            for (int what = 0; what < 4; what++) {
                long due = 0;
                for (int i = 0; i < 4; i++) {
                    due = due << 8 | font[12 + 16 * k + 4 * what + i] & 255;
                }
                Check.due("table(" + k + ", " + what + ")", house.table(k, what), due);
            }
        }
        Check.due("table(0, 0)", house.table(0, 0), 0x636d6170L);
        Check.due("table(9, 0)", house.table(9, 0), -1);
        Check.due("table(-1, 9)", house.table(-1, 9), -1);
        Check.due("table(0, 4)", house.table(0, 4), -2);
        Check.due("table(0, -1)", house.table(0, -1), -2);
        FontKit high = new FontKit().addEmpty();
        high.prep = new byte[] {(byte) 255, (byte) 255, (byte) 255, (byte) 254};
        HintHouse other = high.house();
        Check.due("a sum without sign", other.table(7, 1), 4294967294L);
    }

    private static void glyphFacts(HintHouse house) {
        int[][] due = {
            {500, -7, 0, 0, 0, 0, 0, 0},
            {65535, 12, 44, 2, -30, 5, 0, 3},
            {65535, -2, 26, -1, -3, 0, 2, 2},
            {65535, 32767, 13, 0, 6, 0, 0, 0}};
        for (int g = 0; g < 4; g++) {
            for (int what = 0; what < 8; what++) {
                Check.due("glyph(" + g + ", " + what + ")", house.glyph(g, what), due[g][what]);
            }
        }
        Check.due("glyph(4, 0)", house.glyph(4, 0), -1);
        Check.due("glyph(-1, 9)", house.glyph(-1, 9), -1);
        Check.due("glyph(0, 8)", house.glyph(0, 8), -2);
        Check.due("glyph(0, -1)", house.glyph(0, -1), -2);
    }

    private static void kerns(HintHouse house) {
        Check.due("kern(0, 1)", house.kern(0, 1), -40);
        Check.due("kern(1, 1)", house.kern(1, 1), 32767);
        Check.due("kern(1, 2)", house.kern(1, 2), -1);
        Check.due("kern(3, 3)", house.kern(3, 3), -3);
        Check.due("kern(2, 1)", house.kern(2, 1), 0);
        Check.due("kern(3, 4)", house.kern(3, 4), -1);
        Check.due("kern(4, 0)", house.kern(4, 0), -1);
        Check.due("kern(-1, 0)", house.kern(-1, 0), -1);
        Check.due("kern(0, -1)", house.kern(0, -1), -1);
    }
}

import java.util.Arrays;
import java.util.TreeMap;

/** Promise 4: load, fault by fault. */
public final class LoadTest {
    public static void main(String[] args) {
        Check.due("a font that holds", FontKit.loadBytes(kit().font()), 3);
        directory();
        tables();
        sums();
        head();
        maxp();
        metricsAndLoca();
        glyphs();
        parts();
        kernAndPrograms();
        order();
        Check.done();
    }

    private static FontKit kit() {
        FontKit kit = new FontKit().addEmpty().addSquare();
        kit.add(100, 0, FontKit.composed(0, FontKit.part(2, 1, 0, 0)));
        kit.depth = 1;
        return kit;
    }

    private static void fault(String what, byte[] font, int fault) {
        Check.due(what, FontKit.loadBytes(font), -100 - fault);
    }

    private static byte[] with(int at, int v) {
        byte[] font = kit().font();
        FontKit.setU2(font, at, v);
        return font;
    }

    private static void directory() {
        byte[] font = kit().font();
        for (int n : new int[] {0, 1, 4, 11, 12, 27, 123}) {
            fault("the first " + n + " bytes", Arrays.copyOf(font, n), 1);
        }
        fault("all but one byte", Arrays.copyOf(font, font.length - 1), 3);
        fault("version", with(0, 2), 1);
        fault("version, low", with(2, 1), 1);
        fault("no tables", with(4, 0), 1);
        fault("17 tables", with(4, 17), 1);
        fault("s", with(6, 65), 1);
        fault("e", with(8, 3), 1);
        fault("r", with(10, 49), 1);
        TreeMap<String, byte[]> many = kit().tables();
        for (int k = 0; k < 9; k++) {
            many.put("zz" + (k + 10), new byte[k]);
        }
        Check.due("16 tables", FontKit.loadTables(many), 3);
        many.remove("zz18");
        Check.due("15 tables", FontKit.loadTables(many), 3);
        many.keySet().removeIf(tag -> tag.startsWith("zz1") && !tag.equals("zz10"));
        Check.due("8 tables", FontKit.loadTables(many), 3);
    }

    private static int entry(byte[] font, String tag) {
        for (int k = 0; k < font[5]; k++) {
            if (new String(font, 12 + 16 * k, 4, java.nio.charset.StandardCharsets.ISO_8859_1).equals(tag)) {
                return 12 + 16 * k;
            }
        }
        return -1;
    }

    private static void tables() {
        byte[] font = kit().font();
        byte[] twice = font.clone();
        System.arraycopy(twice, 12, twice, 28, 4);
        fault("a tag twice", twice, 2);
        byte[] down = font.clone();
        down[12] = (byte) 200;
        fault("tags that go down, without sign", down, 2);
        byte[] odd = font.clone();
        int at = entry(odd, "maxp");
        FontKit.setU2(odd, at + 10, (odd[at + 10] & 255) * 256 + (odd[at + 11] & 255) + 2);
        fault("begin not a multiple of 4", odd, 3);
        byte[] within = font.clone();
        FontKit.setU4(within, entry(within, "cmap") + 8, 120);
        fault("begin within the directory", within, 3);
        byte[] beyond = font.clone();
        FontKit.setU4(beyond, entry(beyond, "maxp") + 12, 33);
        fault("length beyond the font", beyond, 3);
        byte[] far = font.clone();
        FontKit.setU4(far, entry(far, "maxp") + 8, 0xfffffffcL);
        fault("begin beyond the font", far, 3);
        byte[] shared = font.clone();
        FontKit.setU4(shared, entry(shared, "hhea") + 12, 37);
        fault("a byte shared with the next", shared, 3);
        byte[] early = font.clone();
        System.arraycopy(early, entry(early, "cmap") + 8, early, entry(early, "glyf") + 8, 4);
        fault("the same begin", early, 3);
        TreeMap<String, byte[]> empty = kit().tables();
        empty.put("zero", new byte[0]);
        Check.due("an empty table at the end", FontKit.loadTables(empty), 3);
        for (String tag : new String[] {"cmap", "glyf", "head", "hhea", "hmtx", "loca", "maxp"}) {
            TreeMap<String, byte[]> without = kit().tables();
            without.remove(tag);
            Check.due("without " + tag, FontKit.loadTables(without), -105);
        }
    }

    private static void sums() {
        byte[] font = kit().font();
        byte[] other = font.clone();
        other[other.length - 1] ^= 1;
        fault("a byte changed", other, 4);
        other = font.clone();
        other[entry(other, "loca") + 7] ^= 1;
        fault("a sum changed", other, 4);
        TreeMap<String, byte[]> tables = kit().tables();
        tables.put("hhea", Arrays.copyOf(tables.get("hhea"), 36));
        byte[] loca = Arrays.copyOf(tables.get("loca"), tables.get("loca").length + 3);
        loca[loca.length - 1] = 9;
        tables.put("loca", loca);
        byte[] padded = FontKit.join(tables);
        Check.due("a table of a length not by 4", FontKit.loadBytes(padded), 3);
        int at = entry(padded, "loca");
        int end = (padded[at + 10] & 255) * 256 + (padded[at + 11] & 255) + loca.length;
        padded[end] = 1;
        fault("bytes behind a table count for the font's sum, not for the table's", padded, 6);
    }

    private static void head() {
        TreeMap<String, byte[]> tables = kit().tables();
        tables.put("head", Arrays.copyOf(tables.get("head"), 55));
        Check.due("head of 55", FontKit.loadTables(tables), -106);
        tables.put("head", Arrays.copyOf(tables.get("head"), 53));
        Check.due("head of 53", FontKit.loadTables(tables), -106);
        tables.put("head", Arrays.copyOf(tables.get("head"), 9));
        Check.due("head of 9", FontKit.loadTables(tables), -106);
        inTable("head", 0, 2, 106);
        inTable("head", 12, 1, 106);
        inTable("head", 18, 15, 106);
        inTable("head", 18, 16385, 106);
        inTable("head", 18, 16, -3);
        inTable("head", 18, 16384, -3);
        inTable("head", 50, 2, 106);
        inTable("head", 50, 0xffff, 106);
        inTable("head", 52, 1, 106);
        byte[] font = kit().font();
        int at = entry(font, "head");
        int begin = (font[at + 10] & 255) * 256 + (font[at + 11] & 255);
        font[begin + 11] ^= 1;
        fault("the number at 8", font, 6);
    }

    /** One U2 of a table changed, all sums right; due is -106 for 106, 3 for -3. */
    private static void inTable(String tag, int at, int v, int due) {
        TreeMap<String, byte[]> tables = kit().tables();
        FontKit.setU2(tables.get(tag), at, v);
        Check.due(tag + " with " + v + " at " + at, FontKit.loadTables(tables), -due);
    }

    private static void maxp() {
        int[][] limits = {{14, 1, 2}, {16, 0, 64}, {18, 0, 64}, {20, 0, 64}, {22, 0, 16}, {24, 0, 256}, {30, 1, 4}};
        inTable("maxp", 0, 0, 107);
        inTable("maxp", 4, 0, 107);
        inTable("maxp", 4, 201, 107);
        inTable("maxp", 14, 0, 107);
        inTable("maxp", 14, 3, 107);
        for (int[] limit : limits) {
            if (limit[0] != 14) {
                inTable("maxp", limit[0], limit[1], -3);
                inTable("maxp", limit[0], limit[2], -3);
            }
            inTable("maxp", limit[0], limit[2] + 1, 107);
        }
        inTable("maxp", 14, 1, 107);
        FontKit kit = kit();
        kit.zones = 1;
        kit.twilight = 0;
        Check.due("zones 1 without twilight points", FontKit.loadBytes(kit.font()), 3);
        TreeMap<String, byte[]> tables = kit().tables();
        tables.put("maxp", Arrays.copyOf(tables.get("maxp"), 34));
        Check.due("maxp of 34", FontKit.loadTables(tables), -107);
    }

    private static void metricsAndLoca() {
        inTable("hhea", 34, 0, 108);
        inTable("hhea", 34, 4, 108);
        TreeMap<String, byte[]> tables = kit().tables();
        tables.put("hhea", Arrays.copyOf(tables.get("hhea"), 37));
        Check.due("hhea of 37", FontKit.loadTables(tables), -108);
        tables = kit().tables();
        tables.put("hmtx", Arrays.copyOf(tables.get("hmtx"), 11));
        Check.due("hmtx of 11", FontKit.loadTables(tables), -109);
        FontKit.setU2(tables.get("hhea"), 34, 2);
        tables.put("hmtx", Arrays.copyOf(tables.get("hmtx"), 10));
        Check.due("hmtx of 10, metrics 2", FontKit.loadTables(tables), 3);
        tables.put("hmtx", Arrays.copyOf(tables.get("hmtx"), 9));
        Check.due("hmtx of 9, metrics 2", FontKit.loadTables(tables), -109);
        tables = kit().tables();
        int length = tables.get("glyf").length;
        tables.put("loca", Arrays.copyOf(tables.get("loca"), 15));
        Check.due("loca of 15", FontKit.loadTables(tables), -110);
        inTable("loca", 14, length + 1, 110);
        inTable("loca", 2, 1, 110);
        inTable("loca", 8, 0xffff, 110);
        FontKit kit = kit();
        kit.form = 0;
        Check.due("loca of form 0", FontKit.loadBytes(kit.font()), 3);
        tables = kit.tables();
        tables.put("loca", Arrays.copyOf(tables.get("loca"), 7));
        Check.due("loca of 7, form 0", FontKit.loadTables(tables), -110);
        FontKit single = new FontKit().addEmpty();
        for (int form = 0; form < 2; form++) {
            single.form = form;
            tables = single.tables();
            tables.put("loca", Arrays.copyOf(tables.get("loca"), 3 + 4 * form));
            Check.due("loca that ends in its last number", FontKit.loadTables(tables), -110);
        }
        tables = kit.tables();
        FontKit.setU2(tables.get("loca"), 6, tables.get("glyf").length / 2 + 1);
        Check.due("loca beyond glyf, form 0", FontKit.loadTables(tables), -110);
        tables = kit().tables();
        tables.put("loca", new FontKit.Out().raw(tables.get("loca")).u4(0).done());
        Check.due("loca with a number more, that goes down", FontKit.loadTables(tables), 3);
    }

    private static void oneGlyph(String what, byte[] bytes, boolean holds) {
        FontKit kit = kit();
        kit.add(0, 0, bytes);
        Check.due(what, FontKit.loadBytes(kit.font()), holds ? 4 : -111);
    }

    private static byte[] line(int points) {
        int[] contour = new int[3 * points];
        for (int i = 0; i < points; i++) {
            contour[3 * i] = i;
        }
        return FontKit.simple(0, new byte[0], contour);
    }

    private static void glyphs() {
        byte[] square = FontKit.simple(0, new byte[0], FontKit.square(0, 0, 5));
        oneGlyph("a square", square, true);
        oneGlyph("a square and more bytes", Arrays.copyOf(square, square.length + 5), true);
        oneGlyph("a square less a byte", Arrays.copyOf(square, square.length - 1), false);
        oneGlyph("9 bytes", new byte[9], false);
        oneGlyph("10 bytes of 0, without how many bytes its program has", new byte[10], false);
        oneGlyph("12 bytes of 0", new byte[12], true);
        oneGlyph("c of -2", new FontKit.Out().u2(-2).raw(new byte[30]).done(), false);
        oneGlyph("c of 13", new FontKit.Out().u2(13).raw(new byte[90]).done(), false);
        int[][] twelve = new int[12][];
        int[][] thirteen = new int[13][];
        for (int k = 0; k < 13; k++) {
            thirteen[k] = new int[] {k, k, 1};
            if (k < 12) {
                twelve[k] = thirteen[k];
            }
        }
        oneGlyph("12 contours", FontKit.simple(0, new byte[0], twelve), true);
        oneGlyph("13 contours", FontKit.simple(0, new byte[0], thirteen), false);
        oneGlyph("100 points", line(100), true);
        oneGlyph("101 points", line(101), false);
        oneGlyph("ends that stay", new FontKit.Out().u2(2, 0, 0, 0, 0, 1, 1, 0).raw(new byte[40]).done(), false);
        oneGlyph("ends that go down", new FontKit.Out().u2(2, 0, 0, 0, 0, 1, 0, 0).raw(new byte[40]).done(), false);
        oneGlyph("a program of 400", FontKit.simple(0, new byte[400]), true);
        oneGlyph("a program of 401", FontKit.simple(0, new byte[401]), false);
        oneGlyph("a program beyond the end", new FontKit.Out().u2(0, 0, 0, 0, 0, 3).u1(0, 0).done(), false);
        FontKit.Out flags = new FontKit.Out().u2(1, 0, 0, 0, 0, 3, 0);
        oneGlyph("a flag for four", flags.u1(8 + 16 + 32, 3).done(), true);
        flags = new FontKit.Out().u2(1, 0, 0, 0, 0, 3, 0);
        oneGlyph("a flag for five of four", flags.u1(8 + 16 + 32, 4).done(), false);
        flags = new FontKit.Out().u2(1, 0, 0, 0, 0, 3, 0);
        oneGlyph("a flag without its number", flags.u1(16 + 32, 16 + 32, 16 + 32, 8 + 16 + 32).done(), false);
    }

    private static byte[] parts(int count) {
        byte[][] parts = new byte[count][];
        for (int k = 0; k < count; k++) {
            parts[k] = FontKit.part(k < count - 1 ? 34 : 2, 0, 0, 0);
        }
        return FontKit.composed(0, parts);
    }

    private static void parts() {
        oneGlyph("8 parts", parts(8), true);
        oneGlyph("9 parts", parts(9), false);
        oneGlyph("a part that is the last glyph itself", FontKit.composed(0, FontKit.part(2, 3, 0, 0)), false);
        oneGlyph("a glyph that there is not", FontKit.composed(0, FontKit.part(2, 4, 0, 0)), false);
        oneGlyph("deeper than depth", FontKit.composed(0, FontKit.part(2, 2, 0, 0)), false);
        byte[] wide = FontKit.composed(0, FontKit.part(3 + 128, 1, 0, 0, 1, 2, 3, 4));
        oneGlyph("four numbers", wide, true);
        oneGlyph("four numbers less a byte", Arrays.copyOf(wide, wide.length - 1), false);
        byte[] one = FontKit.composed(0, FontKit.part(3 + 8 + 64 + 128, 1, 0, 0, 1));
        oneGlyph("bit 8 before 64 before 128", one, true);
        byte[] two = FontKit.composed(0, FontKit.part(3 + 64 + 128, 1, 0, 0, 1));
        oneGlyph("bit 64 before 128, a number missing", two, false);
        byte[] program = FontKit.composed(0, FontKit.part(2 + 256, 1, 0, 0));
        oneGlyph("bit 256 without a program's length", program, false);
        oneGlyph("bit 256 with none", FontKit.withProgram(program), true);
        oneGlyph("bit 256 with 400", FontKit.withProgram(program, new byte[400]), true);
        oneGlyph("bit 256 with 401", FontKit.withProgram(program, new byte[401]), false);
        byte[] early = FontKit.composed(0, FontKit.part(2 + 256 + 32, 1, 0, 0), FontKit.part(2, 1, 0, 0));
        oneGlyph("bit 256 of a part that is not the last", early, true);
        FontKit deep = new FontKit().addEmpty();
        for (int g = 1; g <= 4; g++) {
            deep.add(0, 0, FontKit.composed(0, FontKit.part(2, g - 1, 0, 0)));
        }
        deep.depth = 4;
        Check.due("4 deep", FontKit.loadBytes(deep.font()), 5);
        deep.depth = 3;
        Check.due("4 deep with depth 3", FontKit.loadBytes(deep.font()), -111);
        FontKit ring = new FontKit().addEmpty();
        ring.add(0, 0, FontKit.composed(0, FontKit.part(2, 2, 0, 0)));
        ring.add(0, 0, FontKit.composed(0, FontKit.part(2, 1, 0, 0)));
        ring.depth = 4;
        Check.due("a ring", FontKit.loadBytes(ring.font()), -111);
        FontKit later = new FontKit();
        later.add(0, 0, FontKit.composed(0, FontKit.part(2, 1, 0, 0)));
        later.add(0, 0, FontKit.composed(0, FontKit.part(2, 2, 0, 0)));
        later.addEmpty();
        Check.due("parts behind the glyph, 2 deep", FontKit.loadBytes(later.font()), 3);
        later.depth = 1;
        Check.due("parts behind the glyph, depth 1", FontKit.loadBytes(later.font()), -111);
        later.depth = 0;
        Check.due("parts with depth 0", FontKit.loadBytes(later.font()), -111);
    }

    private static void kern(String what, byte[] kern, boolean holds) {
        FontKit kit = kit();
        kit.kern = kern;
        Check.due(what, FontKit.loadBytes(kit.font()), holds ? 3 : -113);
    }

    private static void kernAndPrograms() {
        kern("kern without pairs", FontKit.kerns(), true);
        kern("kern of 17 bytes", Arrays.copyOf(FontKit.kerns(), 17), false);
        kern("an empty kern", new byte[0], false);
        kern("pairs that rise", FontKit.kerns(0, 1, 5, 0, 2, 5, 1, 0, 5), true);
        kern("pairs of glyphs that there are not", FontKit.kerns(9, 65535, 5, 65535, 0, 5), true);
        kern("a pair twice", FontKit.kerns(0, 1, 5, 0, 1, 5), false);
        kern("pairs that go down", FontKit.kerns(1, 0, 5, 0, 1, 5), false);
        byte[] kern = FontKit.kerns(0, 1, 5, 0, 2, 5);
        kern("kern less a byte", Arrays.copyOf(kern, kern.length - 1), false);
        int[][] changes = {{0, 1}, {2, 0}, {8, 0}, {8, 3}, {8, 257}};
        for (int[] change : changes) {
            byte[] other = kern.clone();
            FontKit.setU2(other, change[0], change[1]);
            kern("kern with " + change[1] + " at " + change[0], other, false);
        }
        byte[] more = kern.clone();
        FontKit.setU2(more, 2, 2);
        FontKit.setU2(more, 4, 9);
        kern("two in kern", more, true);
        int[] many = new int[1503];
        for (int k = 0; k < 501; k++) {
            many[3 * k + 1] = k;
        }
        kern("500 pairs", FontKit.kerns(Arrays.copyOf(many, 1500)), true);
        kern("501 pairs", FontKit.kerns(many), false);
        FontKit kit = kit();
        kit.cvt = new byte[512];
        kit.fpgm = new byte[2000];
        kit.prep = new byte[2000];
        Check.due("cvt of 512, programs of 2000", FontKit.loadBytes(kit.font()), 3);
        kit.cvt = new byte[514];
        Check.due("cvt of 514", FontKit.loadBytes(kit.font()), -114);
        kit.cvt = new byte[3];
        Check.due("cvt of 3", FontKit.loadBytes(kit.font()), -114);
        kit.cvt = new byte[0];
        Check.due("cvt of 0", FontKit.loadBytes(kit.font()), 3);
        kit.fpgm = new byte[2001];
        Check.due("fpgm of 2001", FontKit.loadBytes(kit.font()), -114);
        kit.fpgm = null;
        kit.prep = new byte[2001];
        Check.due("prep of 2001", FontKit.loadBytes(kit.font()), -114);
    }

    /** Of several faults the first one counts. */
    private static void order() {
        FontKit kit = kit();
        kit.prep = new byte[2001];
        kit.kern = new byte[3];
        Check.due("13 and 14", FontKit.loadBytes(kit.font()), -113);
        kit.cmap = new byte[2];
        Check.due("12 and 13", FontKit.loadBytes(kit.font()), -112);
        kit.add(0, 0, new byte[9]);
        Check.due("11 and 12", FontKit.loadBytes(kit.font()), -111);
        TreeMap<String, byte[]> tables = kit.tables();
        tables.put("loca", new byte[0]);
        Check.due("10 and 11", FontKit.loadTables(tables), -110);
        tables.put("hmtx", new byte[0]);
        Check.due("9 and 10", FontKit.loadTables(tables), -109);
        tables.put("hhea", new byte[0]);
        Check.due("8 and 9", FontKit.loadTables(tables), -108);
        tables.put("maxp", new byte[0]);
        Check.due("7 and 8", FontKit.loadTables(tables), -107);
        tables.put("head", new byte[12]);
        Check.due("6 and 7", FontKit.loadTables(tables), -106);
        tables.remove("glyf");
        Check.due("5 and 6", FontKit.loadTables(tables), -105);
    }
}

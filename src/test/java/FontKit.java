import java.io.ByteArrayOutputStream;
import java.util.ArrayList;
import java.util.Arrays;
import java.util.List;
import java.util.TreeMap;

/**
 * Builds fonts for the tests. By default UNITS is 640, so that at PPEM 10 one unit is just a 64th
 * of a pixel and what is due can be reckoned by hand.
 */
final class FontKit {
    /** Bytes that are written number by number, the highest byte first. */
    static final class Out {
        private final ByteArrayOutputStream bytes = new ByteArrayOutputStream();

        Out u1(int... values) {
            for (int v : values) {
                bytes.write(v);
            }
            return this;
        }

        Out u2(int... values) {
            for (int v : values) {
                u1(v >> 8, v);
            }
            return this;
        }

        Out u4(long... values) {
            for (long v : values) {
                u2((int) (v >> 16), (int) v);
            }
            return this;
        }

        Out raw(byte[] more) {
            bytes.write(more, 0, more.length);
            return this;
        }

        byte[] done() {
            return bytes.toByteArray();
        }
    }

    int units = 640;
    int form = 1;
    int metrics = 0;
    int zones = 2;
    int twilight = 4;
    int storage = 16;
    int functions = 8;
    int ownCodes = 2;
    int stack = 32;
    int depth = 2;
    byte[] cmap = groups(65, 90, 0);
    byte[] kern = null;
    byte[] cvt = null;
    byte[] fpgm = null;
    byte[] prep = null;
    final List<byte[]> glyphs = new ArrayList<>();
    final List<int[]> sides = new ArrayList<>();

    FontKit add(int advance, int bearing, byte[] bytes) {
        glyphs.add(bytes);
        sides.add(new int[] {advance, bearing});
        return this;
    }

    /** A square from 0 to 320, advance 400. */
    FontKit addSquare(Object... program) {
        return add(400, 0, simple(0, prog(program), square(0, 0, 320)));
    }

    FontKit addEmpty() {
        return add(200, 0, new byte[0]);
    }

    static int[] square(int x, int y, int side) {
        return new int[] {x, y, 1, x + side, y, 1, x + side, y + side, 1, x, y + side, 1};
    }

    /** Contours of x, y, ON for each point. */
    static byte[] simple(int left, byte[] program, int[]... contours) {
        Out out = new Out().u2(contours.length, left, 0, 0, 0);
        int last = -1;
        for (int[] contour : contours) {
            last += contour.length / 3;
            out.u2(last);
        }
        out.u2(program.length).raw(program);
        for (int[] contour : contours) {
            for (int i = 0; i < contour.length; i += 3) {
                out.u1(contour[i + 2]);
            }
        }
        for (int axis = 0; axis < 2; axis++) {
            int before = 0;
            for (int[] contour : contours) {
                for (int i = axis; i < contour.length; i += 3) {
                    out.u2(contour[i] - before);
                    before = contour[i];
                }
            }
        }
        return out.done();
    }

    /** One part's numbers: FLAGS, glyph, two numbers (of two bytes with bit 1), then those of 1 / 16384. */
    static byte[] part(int flags, int glyph, int first, int second, int... scales) {
        Out out = new Out().u2(flags, glyph);
        if ((flags & 1) != 0) {
            out.u2(first, second);
        } else {
            out.u1(first, second);
        }
        return out.u2(scales).done();
    }

    static byte[] composed(int left, byte[]... parts) {
        Out out = new Out().u2(-1, left, 0, 0, 0);
        for (byte[] part : parts) {
            out.raw(part);
        }
        return out.done();
    }

    static byte[] withProgram(byte[] composed, Object... program) {
        byte[] bytes = prog(program);
        return new Out().raw(composed).u2(bytes.length).raw(bytes).done();
    }

    /** A program: an Integer is a code or a byte, an int[] is pushed, a byte[] is put in as it is. */
    static byte[] prog(Object... parts) {
        Out out = new Out();
        for (Object part : parts) {
            if (part instanceof Integer) {
                out.u1((Integer) part);
            } else if (part instanceof int[]) {
                int[] values = (int[]) part;
                out.u1(65, values.length).u2(values);
            } else {
                out.raw((byte[]) part);
            }
        }
        return out.done();
    }

    static int[] push(int... values) {
        return values;
    }

    /** Codes that leave any number of 32 bits on the STACK. */
    static byte[] number(int v) {
        int half = (v & 65535) >> 1;
        return prog(push(v >> 16, 16384), 99, push(16384), 99, push(half), 96, push(half), 96, push(v & 1), 96);
    }

    /** A cmap with a map of form 12: three numbers for each group. */
    static byte[] groups(int... groups) {
        Out map = new Out().u2(12, 0).u4(16 + 4L * groups.length, 0, groups.length / 3);
        for (int v : groups) {
            map.u4(v);
        }
        return cmap(3, 10, map.done());
    }

    static byte[] cmap(int first, int second, byte[] map) {
        return new Out().u2(0, 1, first, second).u4(12).raw(map).done();
    }

    /** Three numbers for each pair. */
    static byte[] kerns(int... pairs) {
        int count = pairs.length / 3;
        return new Out().u2(0, 1, 0, 14 + 6 * count, 1, count, 0, 0, 0).u2(pairs).done();
    }

    static byte[] words(int... values) {
        return new Out().u2(values).done();
    }

    byte[] head() {
        Out out = new Out().u4(65536, 1, 0, 1594834165L).u2(0, units);
        return out.u4(1, 2, 3, 4).u2(0, 0, 0, 0, 0, 0, 0).u2(form, 0).done();
    }

    byte[] maxp() {
        return new Out().u4(65536).u2(glyphs.size(), 0, 0, 0, 0, zones, twilight, storage, functions,
            ownCodes, stack, 0, 0, depth).done();
    }

    TreeMap<String, byte[]> tables() {
        int n = glyphs.size();
        int count = metrics == 0 ? n : metrics;
        Out glyf = new Out();
        Out loca = new Out();
        Out hmtx = new Out();
        int at = 0;
        for (int g = 0; g <= n; g++) {
            if (form == 0) {
                loca.u2(at / 2);
            } else {
                loca.u4(at);
            }
            if (g < n) {
                byte[] bytes = glyphs.get(g);
                int pad = form == 0 ? bytes.length % 2 : 0;
                glyf.raw(bytes).raw(new byte[pad]);
                at += bytes.length + pad;
                if (g < count) {
                    hmtx.u2(sides.get(g)[0]);
                }
                hmtx.u2(sides.get(g)[1]);
            }
        }
        TreeMap<String, byte[]> tables = new TreeMap<>();
        tables.put("cmap", cmap);
        tables.put("glyf", glyf.done());
        tables.put("head", head());
        tables.put("hhea", new Out().raw(new byte[34]).u2(count).done());
        tables.put("hmtx", hmtx.done());
        tables.put("loca", loca.done());
        tables.put("maxp", maxp());
        putIf(tables, "kern", kern);
        putIf(tables, "cvt ", cvt);
        putIf(tables, "fpgm", fpgm);
        putIf(tables, "prep", prep);
        return tables;
    }

    private static void putIf(TreeMap<String, byte[]> tables, String tag, byte[] bytes) {
        if (bytes != null) {
            tables.put(tag, bytes);
        }
    }

    static long sum(byte[] bytes) {
        long sum = 0;
        for (int i = 0; i < bytes.length; i++) {
            sum += (bytes[i] & 255L) << 24 - 8 * (i % 4);
        }
        return sum & 0xffffffffL;
    }

    private static byte[] withoutHeadSum(String tag, byte[] bytes) {
        byte[] other = bytes.clone();
        for (int i = 8; tag.equals("head") && i < 12 && i < bytes.length; i++) {
            other[i] = 0;
        }
        return other;
    }

    static int directoryLength(int tables) {
        return 12 + 16 * tables;
    }

    /** The font with all its sums right; the last table is not padded. */
    static byte[] join(TreeMap<String, byte[]> tables) {
        return join(tables, new ArrayList<>(tables.keySet()));
    }

    /** The same, with the tables' bytes in another order than the directory tells them. */
    static byte[] join(TreeMap<String, byte[]> tables, List<String> order) {
        int n = tables.size();
        int e = 31 - Integer.numberOfLeadingZeros(Math.max(n, 1));
        Out out = new Out().u4(65536).u2(n, 16 << e, e, 16 * n - (16 << e));
        Out body = new Out();
        TreeMap<String, Integer> begins = new TreeMap<>();
        int at = directoryLength(n);
        for (String tag : order) {
            byte[] bytes = withoutHeadSum(tag, tables.get(tag));
            begins.put(tag, at);
            int pad = begins.size() == n ? 0 : -bytes.length & 3;
            body.raw(bytes).raw(new byte[pad]);
            at += bytes.length + pad;
        }
        for (String tag : tables.keySet()) {
            for (int i = 0; i < 4; i++) {
                out.u1(tag.charAt(i));
            }
            out.u4(sum(withoutHeadSum(tag, tables.get(tag))), begins.get(tag), tables.get(tag).length);
        }
        int headAt = begins.getOrDefault("head", -1);
        byte[] font = out.raw(body.done()).done();
        if (headAt >= 0 && headAt + 12 <= font.length) {
            setU4(font, headAt + 8, 2981146554L - sum(font));
        }
        return font;
    }

    static void setU2(byte[] bytes, int at, int v) {
        bytes[at] = (byte) (v >> 8);
        bytes[at + 1] = (byte) v;
    }

    static void setU4(byte[] bytes, int at, long v) {
        setU2(bytes, at, (int) (v >> 16));
        setU2(bytes, at + 2, (int) v);
    }

    byte[] font() {
        return join(tables());
    }

    static void feed(HintHouse house, byte[] bytes) {
        for (int i = 0; i < bytes.length; i += 8) {
            int n = Math.min(8, bytes.length - i);
            long v = 0;
            for (byte b : Arrays.copyOfRange(bytes, i, i + n)) {
                v = v << 8 | b & 255;
            }
            house.feed(n, v);
        }
    }

    /** What load() answers for these bytes. */
    static int loadBytes(byte[] font) {
        HintHouse house = new HintHouse();
        feed(house, font);
        return house.load();
    }

    static int loadTables(TreeMap<String, byte[]> tables) {
        return loadBytes(join(tables));
    }

    /** A house with the font loaded. */
    HintHouse house() {
        HintHouse house = new HintHouse();
        feed(house, font());
        Check.due("load()", house.load(), glyphs.size());
        return house;
    }

    HintHouse sized(int ppem) {
        HintHouse house = house();
        int answer = house.size(ppem);
        if (answer < 0) {
            Check.due("size(" + ppem + ")", answer, 0);
        }
        return house;
    }
}

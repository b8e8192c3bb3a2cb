import java.util.Arrays;
import java.util.TreeMap;

/** The edges that "4 CHARACTERS, KERNS" names. */
public final class EdgesMapsTest {
    public static void main(String[] args) {
        whichMap();
        recordsThatCount();
        whereItBegins();
        byteMap();
        segmentCount();
        segmentEnds();
        segmentBegins();
        segmentOffsets();
        segmentsInItsLength();
        codesOfSegments();
        placesOfSegments();
        groupCount();
        groupsRise();
        groupsInItsLength();
        codesOfGroups();
        kernHead();
        kernPairs();
        Check.done();
    }

    private static FontKit kit(byte[] cmap) {
        FontKit kit = new FontKit();
        kit.metrics = 1;
        for (int g = 0; g < 10; g++) {
            kit.addEmpty();
        }
        kit.cmap = cmap;
        return kit;
    }

    private static void holds(String what, byte[] cmap, boolean holds) {
        Check.due(what, FontKit.loadBytes(kit(cmap).font()), holds ? 10 : -112);
    }

    private static void glyphs(String what, byte[] cmap, int[]... due) {
        HintHouse house = kit(cmap).house();
        for (int[] pair : due) {
            Check.due(what + ": glyphOf(" + pair[0] + ")", house.glyphOf(pair[0]), pair[1]);
        }
    }

    private static int[] p(int... values) {
        return values;
    }

    /** ENDS, BEGINS, DELTAS, OFFSETS of as many segments each, and what stands behind. */
    private static byte[] segments(int[] ends, int[] begins, int[] deltas, int[] offsets, int... behind) {
        int s = ends.length;
        int length = 16 + 8 * s + 2 * behind.length;
        FontKit.Out out = new FontKit.Out().u2(4, length, 0, 2 * s, 9, 9, 9).u2(ends).u2(9);
        return out.u2(begins).u2(deltas).u2(offsets).u2(behind).done();
    }

    private static byte[] cmap4(int[] ends, int[] begins, int[] deltas, int[] offsets, int... behind) {
        return FontKit.cmap(3, 1, segments(ends, begins, deltas, offsets, behind));
    }

    private static byte[] changed(byte[] bytes, int at, int v) {
        byte[] other = bytes.clone();
        FontKit.setU2(other, at, v);
        return other;
    }

    /** "that of the first RECORD with 3, 10; else 3, 1; else 1, 0; there is one; ... its form is 12, 4, 0, in this order". */
    private static void whichMap() {
        byte[] zero = new FontKit.Out().u2(0, 262, 0).raw(new byte[256]).done();
        zero[6 + 65] = 1;
        byte[] four = segments(p(65535), p(0), p(2 - 65), p(0));
        byte[] twelve = Arrays.copyOfRange(FontKit.groups(65, 65, 3), 12, 40);
        int[][] kinds = {{1, 0, 1}, {3, 1, 2}, {3, 10, 3}, {0, 3, 0}, {3, 0, 0}, {10, 3, 0}, {1, 1, 0}, {2, 10, 0}};
        int begin = 20;
        int[] begins = {begin, begin + zero.length, begin + zero.length + four.length};
        for (int[] first : kinds) {
            for (int[] second : kinds) {
                FontKit.Out out = new FontKit.Out().u2(0, 2);
                for (int[] kind : new int[][] {first, second}) {
                    out.u2(kind[0], kind[1]).u4(begins[Math.max(kind[2] - 1, 0)]);
                }
                byte[] cmap = out.raw(zero).raw(four).raw(twelve).done();
                int best = Math.max(first[2], second[2]);
                String what = first[0] + ", " + first[1] + " and " + second[0] + ", " + second[1];
                holds(what, cmap, best > 0);
                if (best > 0) {
                    glyphs(what, cmap, p(65, best));
                    Check.due(what + ": font(5)", kit(cmap).house().font(5), p(0, 0, 4, 12)[best]);
                }
            }
        }
        for (int kind = 0; kind < 3; kind++) {
            for (int form = 0; form < 3; form++) {
                FontKit.Out out = new FontKit.Out().u2(0, 2).u2(kinds[kind][0], kinds[kind][1]).u4(begins[form]);
                out.u2(kinds[kind][0], kinds[kind][1]).u4(begins[kind]).raw(zero).raw(four).raw(twelve);
                holds("record " + kind + " leads to form " + form, out.done(), kind == form);
            }
        }
    }

    /** "how many RECORDS m": what stands behind the last one is none. */
    private static void recordsThatCount() {
        byte[] groups = Arrays.copyOfRange(FontKit.groups(65, 65, 3), 12, 40);
        byte[] segments = segments(p(65535), p(0), p(1), p(0));
        byte[] bytes = new FontKit.Out().u2(0, 262, 0).raw(new byte[256]).done();
        for (int m = 1; m <= 3; m++) {
            holds("3, 10 as the third record of " + m, third(m, 3, 10, groups), m == 3);
            holds("3, 1 as the third record of " + m, third(m, 3, 1, segments), m == 3);
            holds("1, 0 as the third record of " + m, third(m, 1, 0, bytes), m == 3);
        }
    }

    /** A cmap that tells m RECORDS, and three that stand there. */
    private static byte[] third(int m, int first, int second, byte[] map) {
        FontKit.Out out = new FontKit.Out().u2(0, m).u2(3, 0).u4(28).u2(0, 4).u4(28);
        return out.u2(first, second).u4(28).raw(map).done();
    }

    /** "it begins at the record's U4 from the table's begin". */
    private static void whereItBegins() {
        byte[] map = Arrays.copyOfRange(FontKit.groups(65, 65, 3), 12, 40);
        for (int begin = 12; begin < 18; begin++) {
            FontKit.Out out = new FontKit.Out().u2(0, 1).u2(3, 10).u4(begin).raw(new byte[begin - 12]).raw(map);
            glyphs("a map at " + begin, out.done(), p(65, 3));
        }
        long[] wrong = {0, 11, 13, 40, 41, 0x7fffffffL, 0x80000000L, 0xffffffffL, 0xfffffff4L};
        for (long begin : wrong) {
            holds("a map at " + begin, new FontKit.Out().u2(0, 1).u2(3, 10).u4(begin).raw(map).done(), false);
        }
        byte[] bytes = new FontKit.Out().u2(0, 262, 0).raw(new byte[256]).done();
        aheadOfCmap(3, 10, map);
        aheadOfCmap(3, 1, segments(p(65535), p(0), p(1), p(0)));
        aheadOfCmap(1, 0, bytes);
    }

    /** A map in the table ahead of cmap: 2^32 less its length is beyond the font, not below cmap's begin. */
    private static void aheadOfCmap(int first, int second, byte[] map) {
        byte[] ahead = new FontKit.Out().raw(new byte[-map.length & 3]).raw(map).done();
        byte[] cmap = new FontKit.Out().u2(0, 1, first, second).u4((1L << 32) - map.length).raw(map).done();
        TreeMap<String, byte[]> tables = kit(cmap).tables();
        tables.put("abcd", ahead);
        Check.due("a map ahead of cmap, " + first + ", " + second, FontKit.loadTables(tables), -112);
        FontKit.setU4(cmap, 8, 12);
        Check.due("the same map in cmap, " + first + ", " + second, FontKit.loadTables(tables), 10);
    }

    /** "U2 0, U2 262, U2, 256 U1: the glyph of the code". */
    private static void byteMap() {
        FontKit.Out out = new FontKit.Out().u2(0, 262, 7);
        for (int k = 0; k < 256; k++) {
            out.u1(k == 0 ? 9 : k == 1 ? 10 : k == 2 ? 255 : k == 255 ? 8 : 0);
        }
        byte[] map = FontKit.cmap(1, 0, out.done());
        glyphs("form 0", map, p(0, 9), p(1, 0), p(2, 0), p(3, 0), p(254, 0), p(255, 8), p(256, 0), p(257, 0), p(65536, 0));
        holds("form 0 and a byte more", Arrays.copyOf(map, map.length + 1), true);
        holds("form 0 less a byte", Arrays.copyOf(map, map.length - 1), false);
        holds("261", changed(map, 14, 261), false);
        holds("263", changed(Arrays.copyOf(map, map.length + 1), 14, 263), false);
        holds("form 1", changed(map, 12, 1), false);
        // Behind the table stands what would be glyph 7 of code 256.
        HintHouse house = kit(Arrays.copyOf(map, map.length + 2)).house();
        Check.due("glyphOf(256)", house.glyphOf(256), 0);
        byte[] more = Arrays.copyOf(map, map.length + 2);
        more[map.length] = 7;
        Check.due("glyphOf(256) with a byte there", kit(more).house().glyphOf(256), 0);
    }

    private static byte[] manySegments(int s) {
        int[] ends = new int[s];
        for (int k = 0; k < s; k++) {
            ends[k] = 65535 - (s - 1 - k);
        }
        return cmap4(ends, ends, new int[s], new int[s]);
    }

    /** "U2 twice how many SEGMENTS s (1 .. 40)". */
    private static void segmentCount() {
        for (int s : p(1, 2, 39, 40, 41, 42)) {
            holds(s + " segments", manySegments(s), s <= 40);
        }
        Check.due("font(8) of 40", kit(manySegments(40)).house().font(8), 40);
        holds("no segments", changed(manySegments(1), 18, 0), false);
        holds("65535, twice how many", changed(manySegments(40), 18, 65535), false);
        holds("an odd number", changed(manySegments(1), 18, 3), false);
        holds("1", changed(manySegments(1), 18, 1), false);
        // One segment of all codes: the code itself, if there is such a glyph.
        glyphs("one segment", cmap4(p(65535), p(0), p(0), p(0)), p(0, 0), p(9, 9), p(10, 0), p(65535, 0), p(65536, 0));
    }

    /** "s U2 ENDS, rising, the last one 65535". */
    private static void segmentEnds() {
        int[] none = {0, 0, 0};
        int[][] ends = {{0, 1, 65535}, {65533, 65534, 65535}, {0, 0, 65535}, {5, 4, 65535}, {1, 65535, 65535}, {0, 1, 65534}};
        for (int k = 0; k < ends.length; k++) {
            holds("ends " + Arrays.toString(ends[k]), cmap4(ends[k], none, none, none), k < 2);
        }
        holds("one end of 65535", cmap4(p(65535), p(0), p(0), p(0)), true);
        holds("one end of 65534", cmap4(p(65534), p(0), p(0), p(0)), false);
    }

    /** "s U2 BEGINS, each not above its END". */
    private static void segmentBegins() {
        for (int k = 0; k < 3; k++) {
            int[] begins = {5, 6, 65535};
            holds("begins at the ends", cmap4(p(5, 20, 65535), begins, p(0, 0, 0), p(0, 0, 0)), true);
            if (k < 2) {
                begins[k] = p(5, 20)[k] + 1;
                holds("begin " + k + " above its end", cmap4(p(5, 20, 65535), begins, p(0, 0, 0), p(0, 0, 0)), false);
            }
        }
        holds("65535 above 40000", cmap4(p(40000, 65535), p(65535, 0), p(0, 0), p(0, 0)), false);
        holds("40001 above 40000", cmap4(p(40000, 65535), p(40001, 0), p(0, 0), p(0, 0)), false);
        holds("40000 is not above 40000", cmap4(p(40000, 65535), p(40000, 0), p(0, 0), p(0, 0)), true);
        // A BEGIN may lie below the END before it.
        glyphs("begins within the one before", cmap4(p(5, 9, 65535), p(0, 0, 65535), p(0, -1, 0), p(0, 0, 0)), p(5, 5), p(6, 5));
    }

    /** "s U2 OFFSETS, even". */
    private static void segmentOffsets() {
        for (int k = 0; k < 3; k++) {
            for (int offset : p(0, 1, 2, 3, 65534, 65535)) {
                int[] offsets = new int[3];
                offsets[k] = offset;
                holds("offset " + offset + " of " + k, cmap4(p(5, 9, 65535), p(0, 6, 10), p(0, 0, 0), offsets), offset % 2 == 0);
            }
        }
    }

    /** "U2 its length (it lies in cmap) ... all in its length". */
    private static void segmentsInItsLength() {
        byte[] cmap = cmap4(p(5, 65535), p(0, 6), p(0, 0), p(0, 0));
        int length = cmap.length - 12;
        Check.due("length of two segments", length, 32);
        for (int by = -2; by <= 2; by++) {
            holds("length " + by + " more", changed(cmap, 14, length + by), by == 0);
            holds("length " + by + " more, two bytes behind", changed(Arrays.copyOf(cmap, cmap.length + 2), 14, length + by), by >= 0);
        }
        holds("length 65535", changed(cmap, 14, 65535), false);
        holds("length 0", changed(cmap, 14, 0), false);
        for (int less = 1; less <= cmap.length - 4; less++) {
            holds("cmap less " + less, Arrays.copyOf(cmap, cmap.length - less), false);
        }
    }

    /** "the first SEGMENT whose END is not below it counts, if its BEGIN is not above it: with OFFSET 0 the code and DELTA, modulo 65536". */
    private static void codesOfSegments() {
        byte[] cmap = cmap4(p(20, 30, 65533, 65535), p(10, 25, 65530, 65535), p(-9, -24, 10, 3), p(0, 0, 0, 0));
        glyphs("deltas", cmap, p(9, 0), p(10, 1), p(18, 9), p(19, 0), p(20, 0), p(21, 0), p(24, 0), p(25, 1), p(30, 6), p(31, 0),
            p(65529, 0), p(65530, 4), p(65533, 7), p(65534, 0), p(65535, 2), p(65536, 0), p(65536 + 25, 0), p(1114111, 0));
    }

    /**
     * "else the U2 as many bytes behind the OFFSET'S own place as it says, and twice the code less BEGIN,
     * if that lies in its length and is not 0, and DELTA, modulo 65536; else 0".
     */
    private static void placesOfSegments() {
        int[] ends = {19, 29, 65535};
        int[] begins = {10, 20, 65535};
        byte[] cmap = cmap4(ends, begins, p(0, 65530, 0), p(6, 6, 0), 1, 2, 0, 65535, 9, 10);
        // From the first segment's own place 6 bytes on stand 1, 2, 0, 65535, 9, 10; from the second one's 2, 0, ..
        glyphs("places", cmap, p(10, 1), p(11, 2), p(12, 0), p(13, 0), p(14, 9), p(15, 0), p(16, 0),
            p(20, 0), p(21, 0), p(22, 0), p(23, 3), p(24, 4), p(25, 0));
        byte[] one = cmap4(ends, begins, p(65535, 4, 0), p(6, 4, 0), 1, 2, 1);
        glyphs("the least that is not 0", one, p(10, 0), p(11, 1), p(12, 0), p(20, 5), p(21, 6), p(22, 5));
        // The last U2 lies just in its length; with a byte less it does not.
        int length = one.length - 12;
        byte[] less = changed(one, 14, length - 1);
        glyphs("a length of a byte less", less, p(21, 6), p(22, 0));
        byte[] none = changed(one, 14, length - 6);
        glyphs("a length without places", none, p(10, 0), p(11, 0), p(20, 0));
        // The OFFSET may lead back into the map itself: the last segment's own place, by 65534 it leads far out.
        byte[] far = cmap4(p(19, 65535), p(10, 65535), p(0, 0), p(65534, 0), 1, 2);
        glyphs("far beyond its length", far, p(10, 0), p(19, 0));
        byte[] back = cmap4(p(19, 65535), p(10, 65535), p(0, 5), p(65534, 0), 1, 2);
        glyphs("an OFFSET of 65534 leads on, not back", back, p(10, 0), p(11, 0));
        byte[] own = cmap4(p(19, 65535), p(10, 65535), p(1, 0), p(2, 2), 7);
        glyphs("the next OFFSET itself", own, p(10, 3), p(11, 8), p(12, 0), p(65535, 7));
    }

    private static byte[] manyGroups(int count) {
        int[] groups = new int[3 * count];
        for (int k = 0; k < count; k++) {
            groups[3 * k] = k;
            groups[3 * k + 1] = k;
            groups[3 * k + 2] = k % 10;
        }
        return FontKit.groups(groups);
    }

    /** "U4 how many GROUPS (1 .. 40)". */
    private static void groupCount() {
        for (int count : p(0, 1, 2, 39, 40, 41)) {
            holds(count + " groups", manyGroups(count), count >= 1 && count <= 40);
        }
        HintHouse house = kit(manyGroups(40)).house();
        Check.due("font(8) of 40 groups", house.font(8), 40);
        Check.due("glyphOf(39) of 40 groups", house.glyphOf(39), 9);
        Check.due("glyphOf(40) of 40 groups", house.glyphOf(40), 0);
        byte[] far = manyGroups(1);
        FontKit.setU4(far, 24, 0x10000001L);
        holds("2^28 + 1 groups", far, false);
        FontKit.setU4(far, 24, 0xffffffffL);
        holds("2^32 - 1 groups", far, false);
    }

    /** "FIRST not above LAST, LAST below the next FIRST". */
    private static void groupsRise() {
        holds("5 .. 5", FontKit.groups(5, 5, 0), true);
        holds("6 .. 5", FontKit.groups(6, 5, 0), false);
        holds("0 .. 0", FontKit.groups(0, 0, 0), true);
        holds("5 .. 6, 7 .. 7", FontKit.groups(5, 6, 0, 7, 7, 0), true);
        holds("5 .. 6, 6 .. 7", FontKit.groups(5, 6, 0, 6, 7, 0), false);
        holds("5 .. 6, 4 .. 7", FontKit.groups(5, 6, 0, 4, 7, 0), false);
        holds("0 .. 2^31 - 1, 2^31 .. 2^32 - 1", FontKit.groups(0, Integer.MAX_VALUE, 0, Integer.MIN_VALUE, -1, 0), true);
        holds("2^32 - 1 .. 0", FontKit.groups(-1, 0, 0), false);
        holds("2^32 - 1 .. 2^32 - 1, 0 .. 0", FontKit.groups(-1, -1, 0, 0, 0, 0), false);
    }

    /** "U4 its length (it lies in cmap) ... all in its length". */
    private static void groupsInItsLength() {
        byte[] cmap = FontKit.groups(5, 6, 1, 7, 7, 2);
        int length = cmap.length - 12;
        for (int by = -2; by <= 2; by++) {
            byte[] other = cmap.clone();
            FontKit.setU4(other, 16, length + by);
            holds("length " + by + " more", other, by == 0);
            holds("length " + by + " more, two bytes behind", Arrays.copyOf(other, cmap.length + 2), by >= 0);
        }
        for (long far : new long[] {0, 16, 28, 0x80000000L, 0xffffffffL}) {
            byte[] other = cmap.clone();
            FontKit.setU4(other, 16, far);
            holds("length " + far, other, false);
        }
        for (int less = 1; less <= cmap.length - 4; less++) {
            holds("cmap less " + less, Arrays.copyOf(cmap, cmap.length - less), false);
        }
        for (int form : p(0, 4, 8, 11, 13, 268, 65535)) {
            holds("form " + form, changed(cmap, 12, form), false);
        }
    }

    /** "GLYPH and the code less FIRST. A glyph that there is not counts as 0, a code without any too". */
    private static void codesOfGroups() {
        byte[] cmap = FontKit.groups(0, 1, 8, 10, 12, 8, 20, 30, -1, 40, -1, 1);
        glyphs("groups", cmap, p(0, 8), p(1, 9), p(2, 0), p(9, 0), p(10, 8), p(11, 9), p(12, 0), p(13, 0),
            p(20, 0), p(21, 0), p(22, 0), p(30, 0), p(31, 0), p(39, 0), p(40, 1), p(48, 9), p(49, 0), p(1114111, 0));
        HintHouse house = kit(cmap).house();
        Check.due("glyphOf(-1)", house.glyphOf(-1), -2);
        Check.due("glyphOf(1114112)", house.glyphOf(1114112), -2);
        Check.due("glyphOf(the least)", house.glyphOf(Integer.MIN_VALUE), -2);
        // A third group that is not told, in the map's length.
        byte[] two = FontKit.groups(5, 6, 1, 7, 7, 2, 8, 9, 3);
        FontKit.setU4(two, 24, 2);
        glyphs("a group behind the last one", two, p(7, 2), p(8, 0), p(9, 0));
        byte[] end = FontKit.groups(1114111, 1114111, 5);
        glyphs("the last code", end, p(1114110, 0), p(1114111, 5));
    }

    private static void kern(String what, byte[] kern, boolean holds) {
        FontKit kit = kit(FontKit.groups(65, 70, 1));
        kit.kern = kern;
        Check.due(what, FontKit.loadBytes(kit.font()), holds ? 10 : -113);
    }

    /** "kern: U2 0, U2 how many (1 at least); U2, U2 its length, U2 COVERAGE (1)". */
    private static void kernHead() {
        byte[] kern = FontKit.kerns(1, 2, 3);
        int[][] right = {{2, 1}, {2, 2}, {2, 256}, {2, 65535}, {4, 65535}, {6, 0}, {6, 65535}, {12, 65535}, {14, 65535}, {16, 65535}};
        for (int[] pair : right) {
            kern("kern with " + pair[1] + " at " + pair[0], changed(kern, pair[0], pair[1]), true);
        }
        int[][] wrong = {{0, 1}, {0, 256}, {2, 0}, {8, 0}, {8, 2}, {8, 257}, {8, 65535}};
        for (int[] pair : wrong) {
            kern("kern with " + pair[1] + " at " + pair[0], changed(kern, pair[0], pair[1]), false);
        }
        for (int length = 0; length <= 24; length++) {
            kern("kern of " + length, Arrays.copyOf(kern, length), length == 24);
            kern("kern of " + length + " without pairs", Arrays.copyOf(FontKit.kerns(), length), length >= 18);
        }
    }

    /** "U2 how many PAIRS (500 at most) ... rising by LEFT, then RIGHT; all in the table". */
    private static void kernPairs() {
        for (int count : p(0, 1, 499, 500, 501, 502)) {
            int[] pairs = new int[3 * count];
            for (int k = 0; k < count; k++) {
                pairs[3 * k] = k / 10;
                pairs[3 * k + 1] = k % 10;
                pairs[3 * k + 2] = k + 1;
            }
            kern(count + " pairs", FontKit.kerns(pairs), count <= 500);
            if (count == 500) {
                FontKit kit = kit(FontKit.groups(65, 70, 1));
                kit.kern = FontKit.kerns(pairs);
                HintHouse house = kit.house();
                Check.due("font(6) of 500", house.font(6), 500);
                Check.due("kern(0, 0) of 500", house.kern(0, 0), 1);
                Check.due("kern(9, 9) of 500", house.kern(9, 9), 100);
            }
        }
        byte[] many = FontKit.kerns(1, 2, 3);
        kern("65535 pairs", changed(many, 10, 65535), false);
        kern("two pairs, one there", changed(many, 10, 2), false);
        kern("no pairs, one there", changed(many, 10, 0), true);
        FontKit behind = kit(FontKit.groups(65, 70, 1));
        behind.kern = changed(FontKit.kerns(1, 2, 3, 4, 5, 6), 10, 1);
        HintHouse first = behind.house();
        Check.due("kern(1, 2)", first.kern(1, 2), 3);
        Check.due("kern(4, 5), behind the last pair", first.kern(4, 5), 0);
        Check.due("font(6) of one", first.font(6), 1);
        kern("by RIGHT", FontKit.kerns(1, 2, 0, 1, 3, 0), true);
        kern("the same", FontKit.kerns(1, 2, 0, 1, 2, 1), false);
        kern("RIGHT goes down", FontKit.kerns(1, 3, 0, 1, 2, 0), false);
        kern("LEFT goes up, RIGHT down", FontKit.kerns(1, 3, 0, 2, 2, 0), true);
        kern("LEFT goes down, RIGHT up", FontKit.kerns(2, 1, 0, 1, 2, 0), false);
        kern("as U2s", FontKit.kerns(32767, 65535, 0, 32768, 0, 0, 65535, 65535, 0), true);
        FontKit unknown = kit(FontKit.groups(65, 70, 1));
        unknown.kern = FontKit.kerns(1, 258, 7, 257, 2, 5, 32769, 2, 6);
        HintHouse house = unknown.house();
        Check.due("kern(1, 2) with pairs of glyphs that there are not", house.kern(1, 2), 0);
        kern("from 0, 0", FontKit.kerns(0, 0, 0, 0, 1, 0), true);
        kern("the last two", FontKit.kerns(0, 0, 0, 0, 1, 0, 0, 1, 0), false);
    }
}

import java.util.Arrays;

/** Promise 7, and the maps of promise 4: glyphOf. */
public final class MapTest {
    public static void main(String[] args) {
        HintHouse none = new HintHouse();
        Check.due("glyphOf(-1) of none", none.glyphOf(-1), -3);
        bytes();
        segments();
        groups();
        choice();
        Check.done();
    }

    private static FontKit kit(byte[] cmap) {
        FontKit kit = new FontKit();
        for (int g = 0; g < 10; g++) {
            kit.addEmpty();
        }
        kit.cmap = cmap;
        return kit;
    }

    private static void holds(String what, byte[] cmap, boolean holds) {
        Check.due(what, FontKit.loadBytes(kit(cmap).font()), holds ? 10 : -112);
    }

    private static byte[] byteMap() {
        FontKit.Out map = new FontKit.Out().u2(0, 262, 0);
        for (int k = 0; k < 256; k++) {
            map.u1(k % 12);
        }
        return map.done();
    }

    private static void bytes() {
        byte[] cmap = FontKit.cmap(1, 0, byteMap());
        HintHouse house = kit(cmap).house();
        Check.due("font(5) of form 0", house.font(5), 0);
        Check.due("font(8) of form 0", house.font(8), 256);
        Check.due("glyphOf(0)", house.glyphOf(0), 0);
        Check.due("glyphOf(5)", house.glyphOf(5), 5);
        Check.due("glyphOf(9)", house.glyphOf(9), 9);
        Check.due("glyphOf(10), a glyph that there is not", house.glyphOf(10), 0);
        Check.due("glyphOf(255)", house.glyphOf(255), 3);
        Check.due("glyphOf(256)", house.glyphOf(256), 0);
        Check.due("glyphOf(1114111)", house.glyphOf(1114111), 0);
        Check.due("glyphOf(1114112)", house.glyphOf(1114112), -2);
        Check.due("glyphOf(-1)", house.glyphOf(-1), -2);
        holds("form 0 less a byte", Arrays.copyOf(cmap, cmap.length - 1), false);
        FontKit.setU2(cmap, 14, 261);
        holds("form 0 with 261", cmap, false);
    }

    /** Segments 10..20 by delta, 30..33 by offset, 40..41 by offset with delta, 65535. */
    private static byte[] segmentMap() {
        FontKit.Out map = new FontKit.Out().u2(4, 0, 0, 8, 1, 2, 3);
        map.u2(20, 33, 41, 65535).u2(0);
        map.u2(10, 30, 40, 65535);
        map.u2(-9, 0, 65535, 3);
        map.u2(0, 6, 12, 0);
        map.u2(7, 0, 99, 2);
        map.u2(5);
        byte[] bytes = map.done();
        FontKit.setU2(bytes, 2, bytes.length);
        return bytes;
    }

    private static void segments() {
        byte[] cmap = FontKit.cmap(3, 1, segmentMap());
        HintHouse house = kit(cmap).house();
        Check.due("font(5) of form 4", house.font(5), 4);
        Check.due("font(8) of form 4", house.font(8), 4);
        int[][] due = {{9, 0}, {10, 1}, {18, 9}, {19, 0}, {20, 0}, {21, 0}, {29, 0}, {30, 7}, {31, 0}, {32, 0},
            {33, 2}, {40, 4}, {41, 0}, {42, 0}, {65534, 0}, {65535, 2}, {65536, 0}, {65546, 0}};
        for (int[] pair : due) {
            Check.due("glyphOf(" + pair[0] + ") of form 4", house.glyphOf(pair[0]), pair[1]);
        }
        holds("form 4 less a byte", Arrays.copyOf(cmap, cmap.length - 1), false);
        int[][] faults = {{12, 5}, {14, 47}, {18, 7}, {18, 0}, {18, 82}, {26, 9}, {26, 33}, {32, 65534}, {36, 21}, {54, 7}, {58, 9}};
        for (int[] fault : faults) {
            byte[] other = cmap.clone();
            FontKit.setU2(other, fault[0], fault[1]);
            holds("form 4 with " + fault[1] + " at " + fault[0], other, false);
        }
        byte[] shorter = cmap.clone();
        FontKit.setU2(shorter, 14, 48);
        HintHouse cut = kit(shorter).house();
        Check.due("a place beyond the map's length", cut.glyphOf(30), 0);
        Check.due("a segment without place", cut.glyphOf(10), 1);
        int[] s41 = new int[41];
        for (int k = 0; k < 41; k++) {
            s41[k] = 65535 - 40 + k;
        }
        for (int s = 40; s <= 41; s++) {
            int[] ends = Arrays.copyOfRange(s41, 41 - s, 41);
            FontKit.Out map = new FontKit.Out().u2(4, 16 + 8 * s, 0, 2 * s, 0, 0, 0).u2(ends).u2(0).u2(ends);
            byte[] bytes = FontKit.cmap(3, 1, map.raw(new byte[4 * s]).done());
            holds(s + " segments", bytes, s == 40);
        }
    }

    private static void groups() {
        byte[] cmap = FontKit.groups(5, 8, 2, 9, 9, 0, 100, 2000000, 8, 3000000, 3000000, 1);
        HintHouse house = kit(cmap).house();
        Check.due("font(5) of form 12", house.font(5), 12);
        Check.due("font(8) of form 12", house.font(8), 4);
        int[][] due = {{4, 0}, {5, 2}, {8, 5}, {9, 0}, {99, 0}, {100, 8}, {101, 9}, {102, 0}, {1114111, 0}};
        for (int[] pair : due) {
            Check.due("glyphOf(" + pair[0] + ") of form 12", house.glyphOf(pair[0]), pair[1]);
        }
        holds("form 12 less a byte", Arrays.copyOf(cmap, cmap.length - 1), false);
        holds("a group that goes down", FontKit.groups(5, 4, 0), false);
        holds("groups that share a code", FontKit.groups(5, 8, 0, 8, 9, 0), false);
        holds("no groups", FontKit.groups(), false);
        int[] many = new int[123];
        for (int k = 0; k < 41; k++) {
            many[3 * k] = k;
            many[3 * k + 1] = k;
        }
        holds("40 groups", FontKit.groups(Arrays.copyOf(many, 120)), true);
        holds("41 groups", FontKit.groups(many), false);
        byte[] longer = cmap.clone();
        FontKit.setU4(longer, 16, cmap.length - 11);
        holds("a length beyond cmap", longer, false);
        FontKit.setU4(longer, 16, 0xffffffffL);
        holds("a length far beyond cmap", longer, false);
        FontKit.setU4(longer, 16, cmap.length - 13);
        holds("a length too small", longer, false);
        byte[] high = FontKit.groups(5, 8, 2);
        FontKit.setU4(high, 12 + 24, 0xffffffffL);
        Check.due("a glyph number far beyond", kit(high).house().glyphOf(6), 0);
    }

    private static void choice() {
        byte[] twelve = Arrays.copyOfRange(FontKit.groups(65, 65, 1), 12, 40);
        byte[] four = segmentMap();
        byte[] zero = byteMap();
        FontKit.Out all = new FontKit.Out().u2(0, 4);
        all.u2(1, 0).u4(36).u2(3, 1).u4(36 + 262).u2(0, 5).u4(99999).u2(3, 10).u4(36 + 262 + four.length);
        byte[] cmap = all.raw(zero).raw(four).raw(twelve).done();
        Check.due("form of all three", kit(cmap).house().font(5), 12);
        byte[] other = cmap.clone();
        FontKit.setU2(other, 4 + 24, 7);
        Check.due("form of two", kit(other).house().font(5), 4);
        FontKit.setU2(other, 4 + 8, 7);
        Check.due("form of the last", kit(other).house().font(5), 0);
        FontKit.setU2(other, 4, 7);
        holds("no map that counts", other, false);
        byte[] wrong = cmap.clone();
        FontKit.setU4(wrong, 4 + 24 + 4, 36);
        holds("3, 10 leads to form 0", wrong, false);
        byte[] far = cmap.clone();
        FontKit.setU4(far, 4 + 24 + 4, 0xfffffff0L);
        holds("3, 10 leads out of cmap", far, false);
        byte[] first = new FontKit.Out().u2(0, 2).u2(1, 0).u4(20).u2(1, 0).u4(9999).raw(zero).done();
        holds("the first record counts", first, true);
        byte[] version = cmap.clone();
        FontKit.setU2(version, 0, 1);
        holds("cmap not 0", version, false);
        holds("no records", new FontKit.Out().u2(0, 0).raw(twelve).done(), false);
        FontKit.Out nine = new FontKit.Out().u2(0, 9);
        FontKit.Out eight = new FontKit.Out().u2(0, 8);
        for (int k = 0; k < 9; k++) {
            nine.u2(3, 10).u4(76);
            if (k < 8) {
                eight.u2(3, 10).u4(68);
            }
        }
        holds("8 records", eight.raw(twelve).done(), true);
        holds("9 records", nine.raw(twelve).done(), false);
        holds("records beyond cmap", new FontKit.Out().u2(0, 1).u2(3, 10).u2(0).done(), false);
    }
}

import java.util.ArrayList;
import java.util.Arrays;
import java.util.TreeMap;

/** The edges that "2 THE FONT" names, fault by fault, each on both of its sides. */
public final class EdgesFontTest {
    public static void main(String[] args) {
        howManyTables();
        searchNumbers();
        directoryAllThere();
        tagsGoUp();
        beginsAreMultiplesOf4();
        beginsBehindTheDirectory();
        tablesWithinTheFont();
        tablesShareNoByte();
        sumsAreWrapped();
        sumsHave0sBehindTheEnd();
        sumOfHead();
        neededTables();
        headNumbers();
        sumOfTheFont();
        maxpNumbers();
        zonesAndTwilight();
        hheaNumbers();
        hmtxLength();
        locaLength();
        locaNeverGoesDown();
        cmapRecords();
        programTables();
        tablesInAnyOrder();
        nothingStays();
        Check.done();
    }

    /** Rows of a directory: TAG, BEGIN, LENGTH; the sums are reckoned here, byte by byte. */
    private static byte[] raw(int length, long[]... rows) {
        byte[] body = new byte[length];
        for (int i = 0; i < length; i++) {
            body[i] = (byte) (i * 37 + 11);
        }
        return raw(body, rows);
    }

    private static byte[] raw(byte[] body, long[]... rows) {
        int n = rows.length;
        int e = 31 - Integer.numberOfLeadingZeros(n);
        FontKit.Out out = new FontKit.Out().u4(65536).u2(n, 16 << e, e, 16 * n - (16 << e));
        byte[] all = Arrays.copyOf(body, Math.max(body.length, FontKit.directoryLength(n)));
        for (long[] row : rows) {
            boolean lies = row[1] + row[2] <= all.length;
            byte[] part = lies ? Arrays.copyOfRange(all, (int) row[1], (int) (row[1] + row[2])) : new byte[0];
            out.u4(row[0], FontKit.sum(part), row[1], row[2]);
        }
        byte[] directory = out.done();
        System.arraycopy(directory, 0, all, 0, directory.length);
        return all;
    }

    private static long[] row(long... numbers) {
        return numbers;
    }

    private static void fault(String what, byte[] font, int fault) {
        Check.due(what, FontKit.loadBytes(font), -100 - fault);
    }

    /** A directory of n tables without bytes, all at its end: right but for fault 5. */
    private static byte[] empties(int n) {
        long[][] rows = new long[n][];
        for (int k = 0; k < n; k++) {
            rows[k] = row(100 + k, FontKit.directoryLength(n), 0);
        }
        return raw(0, rows);
    }

    private static FontKit kit() {
        FontKit kit = new FontKit().addEmpty().addSquare();
        kit.add(100, 0, FontKit.composed(0, FontKit.part(2, 1, 0, 0)));
        return kit;
    }

    private static void tables(String what, TreeMap<String, byte[]> tables, int due) {
        Check.due(what, FontKit.loadTables(tables), due);
    }

    /** One U2 of one table changed, all sums right. */
    private static void with(String tag, int at, int v, int due) {
        TreeMap<String, byte[]> tables = kit().tables();
        FontKit.setU2(tables.get(tag), at, v);
        tables(tag + " with " + v + " at " + at, tables, due);
    }

    private static void withLength(String tag, int length, int due) {
        TreeMap<String, byte[]> tables = kit().tables();
        tables.put(tag, Arrays.copyOf(tables.get(tag), length));
        tables(tag + " of " + length, tables, due);
    }

    /** "U2 how many TABLES n (1 .. 16)". */
    private static void howManyTables() {
        for (int n = 1; n <= 16; n++) {
            fault(n + " tables", empties(n), 5);
        }
        fault("17 tables", empties(17), 1);
        fault("no tables", new FontKit.Out().u4(65536).u2(0, 16, 0, -16).raw(new byte[40]).done(), 1);
        fault("no tables, all 0", new FontKit.Out().u4(65536).u2(0, 0, 0, 0).raw(new byte[40]).done(), 1);
        fault("65535 tables", new FontKit.Out().u4(65536).u2(65535, 0, 15, 65520).raw(new byte[40]).done(), 1);
    }

    /** "U4 65536 ... e the greatest with 2^e not above n, s = 16 * 2^e, r = 16 n - s". */
    private static void searchNumbers() {
        for (int n = 1; n <= 16; n++) {
            for (int at = 0; at < 12; at += 2) {
                for (int by = -1; by <= 1; by += 2) {
                    byte[] font = empties(n);
                    int was = (font[at] & 255) << 8 | font[at + 1] & 255;
                    if (at != 4) {
                        FontKit.setU2(font, at, was + by);
                        fault(n + " tables, " + by + " more at " + at, font, 1);
                    }
                }
            }
        }
    }

    /** "then n times a TAG, U4 SUM, U4 BEGIN, U4 LENGTH: all there". */
    private static void directoryAllThere() {
        for (int n = 1; n <= 16; n++) {
            byte[] font = empties(n);
            Check.due("bytes of a directory of " + n, font.length, 12 + 16 * n);
            fault("a directory of " + n + " less a byte", Arrays.copyOf(font, font.length - 1), 1);
            fault("the first 12 bytes of " + n, Arrays.copyOf(font, 12), 1);
            fault("the first 11 bytes of " + n, Arrays.copyOf(font, 11), 1);
        }
        fault("no bytes", new byte[0], 1);
    }

    /** "TAGS go up, as U4, none twice". */
    private static void tagsGoUp() {
        long at = FontKit.directoryLength(2);
        long[][] right = {{0, 1}, {0x61626364, 0x61626365}, {0x7fffffff, 0x80000000L}, {0, 0xffffffffL}};
        for (long[] pair : right) {
            fault(pair[0] + " before " + pair[1], raw(0, row(pair[0], at, 0), row(pair[1], at, 0)), 5);
            fault(pair[1] + " before " + pair[0], raw(0, row(pair[1], at, 0), row(pair[0], at, 0)), 2);
            fault(pair[1] + " twice", raw(0, row(pair[1], at, 0), row(pair[1], at, 0)), 2);
        }
        long more = FontKit.directoryLength(3);
        fault("the last two", raw(0, row(1, more, 0), row(3, more, 0), row(2, more, 0)), 2);
        fault("2 goes before 3", raw(0, row(2, 1, 0), row(1, 1, 0)), 2);
    }

    /** "BEGIN a multiple of 4". */
    private static void beginsAreMultiplesOf4() {
        for (int begin = 28; begin <= 36; begin++) {
            fault("begin " + begin, raw(40, row(1, begin, 2)), begin % 4 == 0 ? 5 : 3);
            fault("begin " + begin + ", no bytes", raw(40, row(1, begin, 0)), begin % 4 == 0 ? 5 : 3);
        }
    }

    /** "not within the directory". */
    private static void beginsBehindTheDirectory() {
        for (int n = 1; n <= 16; n++) {
            int end = FontKit.directoryLength(n);
            long[][] rows = new long[n][];
            for (int k = 0; k < n; k++) {
                rows[k] = row(k, end, 0);
            }
            rows[n - 1] = row(n, end, 4);
            fault("at the directory's end of " + n, raw(end + 4, rows), 5);
            rows[n - 1] = row(n, end - 4, 0);
            fault("4 before the directory's end of " + n, raw(end + 4, rows), 3);
        }
        fault("begin 0", raw(40, row(1, 0, 0)), 3);
    }

    /** "BEGIN and LENGTH not beyond the font". */
    private static void tablesWithinTheFont() {
        fault("to the font's end", raw(41, row(1, 36, 5)), 5);
        fault("a byte beyond the font's end", raw(41, row(1, 36, 6)), 3);
        fault("at the font's end, no bytes", raw(40, row(1, 40, 0)), 5);
        fault("behind the font's end, no bytes", raw(40, row(1, 44, 0)), 3);
        fault("a length of 2^32 - 1", raw(40, row(1, 28, 0xffffffffL)), 3);
        fault("a begin of 2^32 - 4", raw(40, row(1, 0xfffffffcL, 0)), 3);
        fault("both are 28 together, wrapped", raw(40, row(1, 0xfffffffcL, 32)), 3);
        fault("a begin of 2^31", raw(40, row(1, 0x80000000L, 0)), 3);
    }

    /** "none shares a byte with an earlier one". */
    private static void tablesShareNoByte() {
        fault("one behind the other", raw(52, row(1, 44, 4), row(2, 48, 4)), 5);
        fault("one before the other", raw(52, row(1, 48, 4), row(2, 44, 4)), 5);
        fault("the first one's last byte", raw(52, row(1, 44, 5), row(2, 48, 4)), 3);
        fault("the second one's last byte", raw(52, row(1, 48, 4), row(2, 44, 5)), 3);
        fault("the same", raw(52, row(1, 44, 4), row(2, 44, 4)), 3);
        fault("one within the other", raw(56, row(1, 44, 12), row(2, 48, 4)), 3);
        fault("one around the other", raw(56, row(1, 48, 4), row(2, 44, 12)), 3);
        fault("one without bytes within the other", raw(56, row(1, 44, 12), row(2, 48, 0)), 5);
        fault("one around one without bytes", raw(56, row(1, 48, 0), row(2, 44, 12)), 5);
        fault("two without bytes", raw(56, row(1, 48, 0), row(2, 48, 0)), 5);
        fault("the third with the first", raw(80, row(1, 60, 8), row(2, 68, 4), row(3, 64, 4)), 3);
        fault("the third with the second", raw(80, row(1, 60, 4), row(2, 68, 8), row(3, 72, 4)), 3);
        fault("the third with none", raw(80, row(1, 60, 4), row(2, 68, 8), row(3, 64, 4)), 5);
    }

    private static void sum(String what, byte[] font, int k, long sum, int due) {
        FontKit.setU4(font, 12 + 16 * k + 4, sum);
        fault(what + ", sum " + sum, font, due);
    }

    /** "Each SUM ...: that of the TABLE'S U4s, wrapped to 32 bits". */
    private static void sumsAreWrapped() {
        byte[] body = new byte[40];
        Arrays.fill(body, 28, 36, (byte) 255);
        body[39] = 4;
        sum("two greatest and 4", raw(body, row(1, 28, 12)), 0, 2, 5);
        sum("two greatest and 4", raw(body, row(1, 28, 12)), 0, 3, 4);
        sum("two greatest and 4", raw(body, row(1, 28, 12)), 0, 0xffffffffL, 4);
        sum("none", raw(body, row(1, 28, 0)), 0, 0, 5);
        sum("none", raw(body, row(1, 28, 0)), 0, 1, 4);
        for (int k = 0; k < 3; k++) {
            byte[] font = raw(80, row(1, 60, 4), row(2, 64, 4), row(3, 68, 4));
            font[12 + 16 * k + 7] ^= 1;
            fault("the sum of table " + k, font, 4);
        }
    }

    /** "(0s behind its end)": what stands behind a table does not count for its SUM. */
    private static void sumsHave0sBehindTheEnd() {
        byte[] body = new byte[36];
        for (int i = 28; i < 36; i++) {
            body[i] = (byte) (i - 27);
        }
        long[] due = {0, 0x01000000, 0x01020000, 0x01020300, 0x01020304, 0x06020304, 0x06080304, 0x06080a04, 0x06080a0c};
        for (int length = 0; length <= 8; length++) {
            for (int other = 0; other <= 8; other++) {
                sum(length + " bytes", raw(body, row(1, 28, length)), 0, due[other], other == length ? 5 : 4);
            }
        }
    }

    /** "of head with its bytes 8 .. 11 as 0". */
    private static void sumOfHead() {
        byte[] body = new byte[44];
        for (int i = 35; i < 41; i++) {
            body[i] = (byte) (i - 30);
        }
        int head = 0x68656164;
        // Byte 7 is 5, bytes 8 .. 11 are 6 .. 9, byte 12 is 10.
        sum("head", raw(body, row(head, 28, 16)), 0, 5 + 0x0a000000, 5);
        sum("head", raw(body, row(head, 28, 16)), 0, 5 + 0x0a000000 + 0x06070809, 4);
        sum("head of 10 bytes", raw(body, row(head, 28, 10)), 0, 5, 5);
        sum("a tag more", raw(body, row(head + 1, 28, 16)), 0, 5 + 0x0a000000 + 0x06070809, 5);
        sum("a tag more", raw(body, row(head + 1, 28, 16)), 0, 5 + 0x0a000000, 4);
    }

    /** "There are cmap, glyf, head, hhea, hmtx, loca, maxp", even if one has no bytes. */
    private static void neededTables() {
        for (String tag : new String[] {"cmap", "glyf", "head", "hhea", "hmtx", "loca", "maxp"}) {
            TreeMap<String, byte[]> without = kit().tables();
            byte[] bytes = without.remove(tag);
            tables("without " + tag, without, -105);
            without.put(tag.toUpperCase(), bytes);
            tables("with " + tag.toUpperCase(), without, -105);
        }
        FontKit empty = new FontKit().addEmpty();
        Check.due("glyf without bytes", FontKit.loadBytes(empty.font()), 1);
        TreeMap<String, byte[]> tables = empty.tables();
        tables.put("hmtx", new byte[0]);
        tables("hmtx without bytes", tables, -109);
    }

    /** "head: just 54 bytes: U4 65536; at 12 U4 1594834165; at 18 U2 UNITS (16 .. 16384); at 50 ...; at 52 S2 0". */
    private static void headNumbers() {
        withLength("head", 53, -106);
        withLength("head", 55, -106);
        withLength("head", 12, -106);
        int[][] wrong = {{0, 0}, {0, 2}, {2, 1}, {2, 65535}, {12, 0x5f10}, {12, 0x5f0e}, {14, 0x3cf4}, {14, 0x3cf6},
            {18, 15}, {18, 0}, {18, 16385}, {18, 65535}, {50, 2}, {50, 65535}, {50, 256}, {52, 1}, {52, 256}, {52, 65535}};
        for (int[] pair : wrong) {
            with("head", pair[0], pair[1], -106);
        }
        with("head", 18, 16, 3);
        with("head", 18, 16384, 3);
        with("head", 16, 65535, 3);
        with("head", 20, 65535, 3);
        with("head", 48, 65535, 3);
        with("head", 4, 65535, 3);
    }

    /** "The sum of all U4s of the font (0s behind its end) ... and the U4 at 8 are 2981146554 together, wrapped". */
    private static void sumOfTheFont() {
        byte[] font = kit().font();
        int at = headBegin(font);
        for (int more = 0; more <= 5; more++) {
            byte[] longer = Arrays.copyOf(font, font.length + more);
            Check.due(more + " bytes of 0 behind it", FontKit.loadBytes(longer), 3);
            for (int i = font.length; i < longer.length; i++) {
                longer[i] = (byte) (200 + i % 7);
            }
            FontKit.setU4(longer, at + 8, 0);
            FontKit.setU4(longer, at + 8, 2981146554L - FontKit.sum(longer));
            Check.due(more + " bytes behind it", FontKit.loadBytes(longer), 3);
            for (int i = 8; i < 12; i++) {
                longer[at + i] ^= 64;
                fault("byte " + i + " of head, " + more + " bytes more", longer, 6);
                longer[at + i] ^= 64;
            }
        }
    }

    private static int headBegin(byte[] font) {
        for (int k = 0; k < font[5]; k++) {
            int at = 12 + 16 * k;
            if (font[at] == 'h' && font[at + 1] == 'e') {
                return (font[at + 10] & 255) << 8 | font[at + 11] & 255;
            }
        }
        return -1;
    }

    /** "maxp: just 32 bytes: U4 65536; U2s: at 4 GLYPHS (1 .. 200), at 14 ..". */
    private static void maxpNumbers() {
        withLength("maxp", 31, -107);
        withLength("maxp", 33, -107);
        with("maxp", 0, 0, -107);
        with("maxp", 2, 1, -107);
        with("maxp", 4, 0, -107);
        int[][] limits = {{16, 64}, {18, 64}, {20, 64}, {22, 16}, {24, 256}, {30, 4}};
        for (int[] limit : limits) {
            with("maxp", limit[0], limit[1], 3);
            with("maxp", limit[0], limit[1] + 1, -107);
            with("maxp", limit[0], 65535, -107);
            with("maxp", limit[0], limit[0] == 30 ? 1 : 0, 3);
            for (int bit = 512; bit <= 32768; bit *= 2) {
                with("maxp", limit[0], limit[1] + bit, -107);
                with("maxp", 4, 3 + bit / 2, -107);
                with("maxp", 14, 2 + bit, -107);
            }
        }
        for (int between : new int[] {6, 8, 10, 12, 26, 28}) {
            with("maxp", between, 65535, 3);
        }
        FontKit many = new FontKit();
        many.metrics = 1;
        many.form = 0;
        for (int g = 0; g < 200; g++) {
            many.add(7, g, new byte[0]);
        }
        HintHouse house = many.house();
        Check.due("glyph(199, 1) of 200", house.glyph(199, 1), 199);
        Check.due("glyph(200, 1) of 200", house.glyph(200, 1), -1);
        house.size(10);
        Check.due("make(199) of 200", house.make(199), 0);
        Check.due("told(4) of glyph 199", house.told(4), 7);
        many.add(7, 0, new byte[0]);
        fault("201 glyphs", many.font(), 7);
    }

    /** "at 14 ZONES (1, 2) ... (TWILIGHT must be 0 with ZONES 1.)" */
    private static void zonesAndTwilight() {
        int[][] due = {{0, 0, -107}, {0, 1, -107}, {1, 0, 3}, {1, 1, -107}, {1, 64, -107}, {2, 0, 3}, {2, 1, 3}, {2, 64, 3},
            {2, 65, -107}, {3, 0, -107}, {3, 1, -107}, {65535, 0, -107}};
        for (int[] row : due) {
            FontKit kit = kit();
            kit.zones = row[0];
            kit.twilight = row[1];
            Check.due("ZONES " + row[0] + ", TWILIGHT " + row[1], FontKit.loadBytes(kit.font()), row[2]);
        }
    }

    /** "hhea: just 36 bytes, at 34 U2 METRICS (1 .. GLYPHS)". */
    private static void hheaNumbers() {
        withLength("hhea", 35, -108);
        withLength("hhea", 37, -108);
        int[] due = {-108, 3, 3, 3, -108};
        for (int metrics = 0; metrics < due.length; metrics++) {
            with("hhea", 34, metrics, due[metrics]);
        }
        with("hhea", 34, 65535, -108);
        with("hhea", 32, 65535, 3);
    }

    /** "hmtx: at least METRICS times U2 ADVANCE, S2 BEARING, then an S2 BEARING for each glyph more". */
    private static void hmtxLength() {
        for (int metrics = 1; metrics <= 3; metrics++) {
            FontKit kit = kit();
            kit.metrics = metrics;
            int length = 4 * metrics + 2 * (3 - metrics);
            for (int by = -1; by <= 1; by++) {
                TreeMap<String, byte[]> tables = kit.tables();
                tables.put("hmtx", Arrays.copyOf(tables.get("hmtx"), length + by));
                tables("hmtx of " + (length + by) + ", METRICS " + metrics, tables, by < 0 ? -109 : 3);
            }
        }
    }

    /** "loca: at least GLYPHS and 1 numbers, U2 by form 0, U4 by 1". */
    private static void locaLength() {
        for (int form = 0; form < 2; form++) {
            FontKit kit = kit();
            kit.form = form;
            kit.metrics = 1;
            int length = 8 + 8 * form;
            for (int by = -1; by <= 1; by++) {
                TreeMap<String, byte[]> tables = kit.tables();
                tables.put("loca", Arrays.copyOf(tables.get("loca"), length + by));
                tables("loca of " + (length + by) + ", form " + form, tables, by < 0 ? -110 : 3);
                // All are 0, and so are the bytes behind.
                FontKit empties = new FontKit().addEmpty().addEmpty().addEmpty();
                empties.form = form;
                empties.metrics = 1;
                tables = empties.tables();
                tables.put("loca", Arrays.copyOf(tables.get("loca"), length + by));
                tables("loca of " + (length + by) + " of empty ones, form " + form, tables, by < 0 ? -110 : 3);
            }
        }
    }

    /** "they never go down, the last one (of those) is not beyond glyf's LENGTH", "twice it counts". */
    private static void locaNeverGoesDown() {
        for (int form = 0; form < 2; form++) {
            int last = 2 - form;
            int[][] due = {{0, 0, 1}, {0, 12 / last, 1}, {12 / last, 12 / last, 1}, {0, 12 / last + 1, -110},
                {12 / last, 12 / last - 1, -110}, {1, 0, -110}, {12 / last + 1, 12 / last, -110}};
            for (int[] row : due) {
                FontKit kit = new FontKit().add(0, 0, new byte[12]);
                kit.form = form;
                TreeMap<String, byte[]> tables = kit.tables();
                FontKit.Out loca = new FontKit.Out();
                tables.put("loca", form == 0 ? loca.u2(row[0], row[1], 0).done() : loca.u4(row[0], row[1], 0).done());
                tables("loca " + row[0] + ", " + row[1] + ", form " + form, tables, row[2]);
            }
        }
        FontKit kit = new FontKit().add(0, 0, new byte[12]);
        kit.form = 0;
        for (int place : new int[] {7, 32767, 32768, 65535}) {
            TreeMap<String, byte[]> twice = kit.tables();
            twice.put("loca", new FontKit.Out().u2(place, place).done());
            tables("places of twice " + place, twice, -110);
        }
        kit.form = 1;
        TreeMap<String, byte[]> tables = kit.tables();
        tables.put("loca", new FontKit.Out().u4(0, 0x100000000L - 4).done());
        tables("a place of 2^32 - 4", tables, -110);
        tables.put("loca", new FontKit.Out().u4(0x80000000L, 0x80000000L).done());
        tables("places of 2^31", tables, -110);
    }

    /** "cmap: U2 0, U2 how many RECORDS m (1 .. 8), of U2, U2, U4 each, all there". */
    private static void cmapRecords() {
        // The map lies over the records: form 12 at 12, length 28, one group; 44 bytes are just five records.
        FontKit.Out out = new FontKit.Out().u2(0, 5).u2(3, 10).u4(12);
        out.u2(12, 0).u4(28).u4(0, 1).u4(65, 65).u4(1, 0);
        byte[] records = out.done();
        Check.due("bytes of five records", records.length, 44);
        FontKit kit = kit();
        kit.cmap = records;
        Check.due("all there", kit.house().glyphOf(65), 1);
        kit.cmap = Arrays.copyOf(records, 43);
        fault("less a byte", kit.font(), 12);
        for (int m = 0; m <= 9; m++) {
            byte[] more = Arrays.copyOf(records, 76);
            FontKit.setU2(more, 2, m);
            kit.cmap = more;
            Check.due(m + " records", FontKit.loadBytes(kit.font()), m < 1 || m > 8 ? -112 : 3);
            kit.cmap = Arrays.copyOf(more, Math.max(44, 4 + 8 * m));
            Check.due(m + " records, just", FontKit.loadBytes(kit.font()), m < 1 || m > 8 ? -112 : 3);
        }
        byte[] other = records.clone();
        other[1] = 1;
        kit.cmap = other;
        fault("cmap with 1 at 0", kit.font(), 12);
        for (int length = 0; length < 12; length++) {
            kit.cmap = Arrays.copyOf(records, length);
            fault("cmap of " + length, kit.font(), 12);
        }
    }

    /** The bytes of each table may be the last ones of the font, whatever place its TAG has. */
    private static void tablesInAnyOrder() {
        FontKit kit = new FontKit().addEmpty();
        kit.add(-1, -77, FontKit.simple(0, new byte[0], new int[] {0, 0, 1, 5, -9, 1}));
        kit.cvt = FontKit.words(5, -6);
        kit.kern = FontKit.kerns(1, 1, -5);
        kit.cmap = FontKit.groups(65, 65, 1);
        kit.prep = FontKit.prog(new int[] {0, 7}, 66);
        kit.fpgm = FontKit.prog(new int[] {1, 8}, 66);
        TreeMap<String, byte[]> tables = kit.tables();
        for (String last : tables.keySet()) {
            ArrayList<String> order = new ArrayList<>(tables.descendingKeySet());
            order.remove(last);
            order.add(last);
            HintHouse house = new HintHouse();
            FontKit.feed(house, FontKit.join(tables, order));
            Check.due(last + " at the end: load()", house.load(), 2);
            Check.due(last + " at the end: size(10)", house.size(10), 4);
            Check.due(last + " at the end: make(1)", house.make(1), 2);
            long[] got = {house.glyph(1, 0), house.glyph(1, 1), house.kern(1, 1), house.glyphOf(65), house.held(0, 1), house.held(1, 0),
                house.held(1, 1), house.point(1, 1), house.font(0)};
            long[] due = {65535, -77, -5, 1, -6, 7, 8, -9, 640};
            for (int k = 0; k < due.length; k++) {
                Check.due(last + " at the end: number " + k, got[k], due[k]);
            }
        }
    }

    private static byte[][] fonts() {
        FontKit full = new FontKit().addEmpty().addSquare(1, 1);
        full.add(9, 9, FontKit.withProgram(FontKit.composed(7, FontKit.part(34, 1, 0, 0), FontKit.part(2 + 256, 1, 0, 0)), 1));
        full.cvt = FontKit.words(1, 2, 3);
        full.kern = FontKit.kerns(0, 1, -5, 1, 1, 6);
        full.prep = FontKit.prog(1, 1);
        full.fpgm = FontKit.prog(1);
        FontKit plain = new FontKit().addEmpty().addEmpty().addEmpty().addEmpty();
        plain.metrics = 1;
        plain.depth = 1;
        byte[] map = new FontKit.Out().u2(0, 262, 0).raw(new byte[256]).done();
        map[6 + 65] = 2;
        plain.cmap = FontKit.cmap(1, 0, map);
        FontKit one = new FontKit().addSquare().add(0, 0, FontKit.composed(0, FontKit.part(2, 0, 0, 0)));
        one.depth = 1;
        one.cmap = FontKit.cmap(3, 1, new FontKit.Out().u2(4, 24, 0, 2, 0, 0, 0).u2(65535, 0, 0, 65536 - 64, 0).done());
        FontKit torn = new FontKit().addEmpty().add(0, 0, Arrays.copyOf(FontKit.simple(0, new byte[0], FontKit.square(0, 0, 9)), 15));
        FontKit far = new FontKit().addEmpty();
        far.cmap = new FontKit.Out().u2(0, 1, 1, 0).u4(9999).raw(map).done();
        TreeMap<String, byte[]> less = full.tables();
        less.remove("loca");
        FontKit deep = new FontKit().add(0, 0, FontKit.composed(0, FontKit.part(2, 1, 0, 0)));
        deep.add(0, 0, FontKit.composed(0, FontKit.part(2, 0, 0, 0)));
        return new byte[][] {full.font(), plain.font(), one.font(), torn.font(), far.font(), FontKit.join(less), deep.font(), new byte[11], new byte[0]};
    }

    /** All that can be told of the font that is LOADED. */
    private static long[] facts(HintHouse house, int answer) {
        long[] facts = new long[200];
        int k = 0;
        facts[k++] = answer;
        for (int what = 0; what < 10; what++) {
            facts[k++] = house.font(what);
        }
        for (int table = 0; table < 12; table++) {
            for (int what = 0; what < 4; what++) {
                facts[k++] = house.table(table, what);
            }
        }
        for (int g = 0; g < 5; g++) {
            for (int what = 0; what < 8; what++) {
                facts[k++] = house.glyph(g, what);
            }
            facts[k++] = house.kern(g, 1);
            facts[k++] = house.glyphOf(64 + g);
        }
        facts[k++] = house.size(10);
        for (int g = 0; g < 5; g++) {
            facts[k++] = house.make(g);
            facts[k++] = house.told(5);
            facts[k++] = house.told(4);
        }
        for (int i = 0; i < 4; i++) {
            facts[k++] = house.held(0, i);
        }
        return facts;
    }

    /** What was LOADED before, or was a FAULT, leaves nothing in the font that is LOADED then. */
    private static void nothingStays() {
        byte[][] fonts = fonts();
        int[] answers = {3, 4, 2, -111, -112, -105, -111, -101, -101};
        for (int first = 0; first < fonts.length; first++) {
            for (int second = 0; second < fonts.length; second++) {
                HintHouse house = new HintHouse();
                FontKit.feed(house, fonts[first]);
                facts(house, house.load());
                house.wipe();
                FontKit.feed(house, fonts[second]);
                HintHouse fresh = new HintHouse();
                FontKit.feed(fresh, fonts[second]);
                int answer = fresh.load();
                Check.due("load() of font " + second, answer, answers[second]);
                long[] got = facts(house, house.load());
                long[] due = facts(fresh, answer);
                for (int k = 0; k < due.length; k++) {
                    Check.due("font " + second + " behind font " + first + ": fact " + k, got[k], due[k]);
                }
            }
        }
    }

    /** "If there is "cvt ", its LENGTH is even, 512 at most; if there are fpgm, prep, each has at most 2000 bytes". */
    private static void programTables() {
        int[][] cvts = {{0, 3}, {1, -114}, {2, 3}, {511, -114}, {512, 3}, {513, -114}, {514, -114}};
        for (int[] pair : cvts) {
            FontKit kit = kit();
            kit.cvt = new byte[pair[0]];
            Check.due("cvt of " + pair[0], FontKit.loadBytes(kit.font()), pair[1]);
        }
        for (int length = 1999; length <= 2002; length++) {
            FontKit kit = kit();
            kit.fpgm = new byte[length];
            Check.due("fpgm of " + length, FontKit.loadBytes(kit.font()), length > 2000 ? -114 : 3);
            kit.fpgm = null;
            kit.prep = new byte[length];
            Check.due("prep of " + length, FontKit.loadBytes(kit.font()), length > 2000 ? -114 : 3);
        }
        TreeMap<String, byte[]> tables = kit().tables();
        tables.put("cvt!", new byte[3]);
        tables("cvt without a blank", tables, 3);
    }
}

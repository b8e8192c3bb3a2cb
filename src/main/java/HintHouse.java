import java.util.Arrays;

/** A house of fonts with programs. The document that tells what each call answers is ../shared/DOC.md. */
public final class HintHouse {
    public static final int NONE = -1;

    private static final int UNKNOWN = -1;
    private static final int OUTSIDE = -2;
    private static final int NOT_YET = -3;
    private static final int NO_ROOM = -4;

    private static final int MOST_BYTES = 12000;
    private static final int MOST_GLYPHS = 200;
    private static final int MOST_CODES = 100;
    private static final int LAST_CODE = 1114111;
    private static final int FAR_PLACE = 5000;
    private static final int FAR_DRAWN = 20000;
    private static final int FAILED = -100;
    private static final int LINE_FAILED = -1000000;
    private static final int LINE_TOO_FAR = -1000200;

    private static final int PX = 64;
    private static final int ONE = 16384;

    // The tables that count, as rows of Font.begins and Font.lengths.
    private static final int CMAP = 0;
    private static final int GLYF = 1;
    private static final int HEAD = 2;
    private static final int HHEA = 3;
    private static final int HMTX = 4;
    private static final int LOCA = 5;
    private static final int MAXP = 6;
    private static final int NEEDED = 7;
    private static final int KERN = 7;
    private static final int CVT = 8;
    private static final int FPGM = 9;
    private static final int PREP = 10;
    private static final int[] TAGS = {
        0x636d6170, 0x676c7966, 0x68656164, 0x68686561, 0x686d7478, 0x6c6f6361, 0x6d617870,
        0x6b65726e, 0x63767420, 0x6670676d, 0x70726570};

    // What maxp limits, as places in Font.limits.
    private static final int ZONES = 0;
    private static final int TWILIGHT = 1;
    private static final int STORAGE = 2;
    private static final int FUNCTIONS = 3;
    private static final int OWN_CODES = 4;
    private static final int STACK = 5;
    private static final int DEPTH = 6;
    private static final int[] LIMIT_PLACES = {14, 16, 18, 20, 22, 24, 30};
    private static final int[] LIMIT_LEASTS = {1, 0, 0, 0, 0, 0, 0};
    private static final int[] LIMIT_MOSTS = {2, 64, 64, 64, 16, 256, 4};

    // What is noted of each glyph, as rows of Font.facts.
    private static final int BEGIN = 0;
    private static final int BYTES = 1;
    private static final int CONTOURS = 2;
    private static final int LEFT = 3;
    private static final int POINTS = 4;
    private static final int PARTS = 5;
    private static final int PROGRAM_BEGIN = 6;
    private static final int PROGRAM_BYTES = 7;

    private static final int MOST_POINTS = 100;
    private static final int MOST_CONTOURS = 20;
    private static final int MOST_OWN_CONTOURS = 12;
    private static final int MOST_PARTS = 8;
    private static final int MOST_PARTS_MADE = 60;
    private static final int MOST_PROGRAM = 400;
    private static final int MOST_LEVELS = 5;
    private static final int MOST_CVT = 256;
    private static final int MOST_STACK = 256;
    private static final int MOST_STEPS = 20000;
    private static final int MOST_CALLS = 32;
    private static final int MOST_TWILIGHT = 64;
    private static final int MOST_STORAGE = 64;
    private static final int MOST_FUNCTIONS = 64;
    private static final int FAR_AHEAD = 1000000;
    private static final int FAR_AT_LAST = 4096;

    // The settings that are kept from program to program, as places in Memory.kept.
    private static final int CUT = 0;
    private static final int SINGLE = 1;
    private static final int SINGLE_CUT = 2;
    private static final int LEAST = 3;
    private static final int FLIP = 4;
    private static final int BASE = 5;
    private static final int SHIFT = 6;
    private static final int SCAN = 7;
    private static final int SCAN_KIND = 8;
    private static final int[] KEPT_AT_FIRST = {68, 0, 0, 64, 1, 9, 3, 0, 0};

    private static final int TOO_FEW = 1;
    private static final int TOO_MANY = 2;
    private static final int NO_CODE = 3;
    private static final int ENDED = 4;
    private static final int NO_POINT = 5;
    private static final int NO_ENTRY = 6;
    private static final int BY_ZERO = 7;
    private static final int JUMPED_OUT = 8;
    private static final int TOO_DEEP = 9;
    private static final int TOO_LONG = 10;
    private static final int BAD_NUMBER = 11;
    private static final int TOO_BIG = 12;
    private static final int TOO_FAR = 13;

    private static final int TOUCHED_X = 1;
    private static final int TOUCHED_Y = 2;

    // How many numbers each code takes, so that this is asked ahead of all else it may fail by.
    private static final int NOT_TOLD = -1;
    private static final int LOOP_TIMES = -2;
    private static final int LOOP_AND_ONE = -3;
    private static final int[] TAKES = {
        0, 0, 0, 0, 0, 0, 2, 2, 2, 2, 2, 2, 0, 0, 0, -1,
        1, 1, 1, 1, 1, 1, 1, 1, 0, 0, 1, 0, 1, 1, 1, 1,
        1, 1, 0, 2, 0, 1, 1, 2, -1, 1, 2, 1, 1, 0, 1, 1,
        0, 0, -2, -2, 1, 1, 1, 1, -3, -2, 2, 2, -2, 0, 2, 2,
        0, 0, 2, 1, 2, 1, 1, 1, 2, 2, 2, 0, 0, 0, 0, -1,
        2, 2, 2, 2, 2, 2, 1, 1, 1, 0, 2, 2, 1, 1, 1, 1,
        2, 2, 2, 2, 1, 1, 1, 1, 1, 1, 1, 1, 1, 1, 1, 1,
        2, 1, 1, 1, 1, 1, 1, 1, 2, 2, 0, -1, 0, 0, -1, -1,
        -2, 2, 2, -1, -1, 1, 2, 2, 1, 1, 3, 2, 2, 1, -1, -1,
        -1, -1, -1, -1, -1, -1, -1, -1, -1, -1, -1, -1, -1, -1, -1, -1,
        -1, -1, -1, -1, -1, -1, -1, -1, -1, -1, -1, -1, -1, -1, -1, -1,
        0, 0, 0, 0, 0, 0, 0, 0, 0, 0, 0, 0, 0, 0, 0, 0,
        1, 1, 1, 1, 1, 1, 1, 1, 1, 1, 1, 1, 1, 1, 1, 1,
        1, 1, 1, 1, 1, 1, 1, 1, 1, 1, 1, 1, 1, 1, 1, 1,
        2, 2, 2, 2, 2, 2, 2, 2, 2, 2, 2, 2, 2, 2, 2, 2,
        2, 2, 2, 2, 2, 2, 2, 2, 2, 2, 2, 2, 2, 2, 2, 2};

    // Which method of Machine does each code: one switch over all of them would be too long to read.
    private static final int VECTORS = 1;
    private static final int SETTINGS = 2;
    private static final int FLOW = 3;
    private static final int STACKING = 4;
    private static final int MEMORY = 5;
    private static final int COMPARING = 6;
    private static final int RECKONING = 7;
    private static final int SINGLE_POINTS = 8;
    private static final int MANY_POINTS = 9;
    private static final int MEASURED = 10;
    private static final int DELTAS = 11;
    private static final int SHIFTS = 12;
    private static final int[] GROUPS = {
        1, 1, 1, 1, 1, 1, 1, 1, 1, 1, 1, 1, 1, 1, 1, 0,
        2, 2, 2, 2, 2, 2, 2, 2, 2, 2, 2, 3, 3, 2, 2, 2,
        4, 4, 4, 4, 4, 4, 4, 8, 0, 8, 3, 3, 3, 3, 8, 8,
        8, 8, 12, 12, 12, 12, 12, 12, 9, 9, 10, 10, 9, 2, 10, 10,
        4, 4, 5, 5, 5, 5, 8, 8, 8, 8, 8, 5, 5, 2, 2, 0,
        6, 6, 6, 6, 6, 6, 6, 6, 3, 3, 6, 6, 6, 11, 2, 2,
        7, 7, 7, 7, 7, 7, 7, 7, 7, 7, 7, 7, 7, 7, 7, 7,
        5, 11, 11, 11, 11, 11, 2, 2, 3, 3, 2, 0, 2, 2, 0, 0,
        9, 8, 8, 0, 0, 2, 1, 1, 5, 3, 4, 7, 7, 2, 0, 0,
        0, 0, 0, 0, 0, 0, 0, 0, 0, 0, 0, 0, 0, 0, 0, 0,
        0, 0, 0, 0, 0, 0, 0, 0, 0, 0, 0, 0, 0, 0, 0, 0,
        4, 4, 4, 4, 4, 4, 4, 4, 4, 4, 4, 4, 4, 4, 4, 4,
        10, 10, 10, 10, 10, 10, 10, 10, 10, 10, 10, 10, 10, 10, 10, 10,
        10, 10, 10, 10, 10, 10, 10, 10, 10, 10, 10, 10, 10, 10, 10, 10,
        10, 10, 10, 10, 10, 10, 10, 10, 10, 10, 10, 10, 10, 10, 10, 10,
        10, 10, 10, 10, 10, 10, 10, 10, 10, 10, 10, 10, 10, 10, 10, 10};

    private final byte[] bytes;
    private int byteCount;
    private final Font font;
    private final Loader loader;
    private final Maker maker;
    private final Canvas canvas;
    private final int[] codes;
    private int codeCount;

    public HintHouse() {
        bytes = new byte[MOST_BYTES];
        font = new Font();
        GlyphReader reader = new GlyphReader(font);
        loader = new Loader(font, reader);
        maker = new Maker(font, reader);
        canvas = new Canvas();
        codes = new int[MOST_CODES];
    }

    public int feed(int n, long bytes) {
        if (n < 1 || n > 8) {
            return OUTSIDE;
        }
        if (byteCount + n > MOST_BYTES) {
            return NO_ROOM;
        }
        for (int k = n - 1; k >= 0; k--) {
            this.bytes[byteCount] = (byte) (bytes >> 8 * k);
            byteCount++;
        }
        return byteCount;
    }

    public int wipe() {
        int were = byteCount;
        byteCount = 0;
        return were;
    }

    public int load() {
        maker.forgetAll();
        font.take(bytes, byteCount);
        int fault = loader.findFault();
        font.loaded = fault == 0;
        return fault == 0 ? font.glyphs : FAILED - fault;
    }

    public int font(int what) {
        if (!font.loaded) {
            return NOT_YET;
        }
        switch (what) {
            case 0: return font.units;
            case 1: return font.glyphs;
            case 2: return font.metrics;
            case 3: return font.locaForm;
            case 4: return font.tables;
            case 5: return font.mapForm;
            case 6: return font.pairs;
            case 7: return font.lengths[CVT] / 2;
            case 8: return font.mapCount;
            case 9: return font.length;
            default: return OUTSIDE;
        }
    }

    public long table(int k, int what) {
        if (!font.loaded) {
            return NOT_YET;
        }
        if (k < 0 || k >= font.tables) {
            return UNKNOWN;
        }
        if (what < 0 || what > 3) {
            return OUTSIDE;
        }
        return font.u4(12 + 16 * k + 4 * what);
    }

    public int glyphOf(int code) {
        if (!font.loaded) {
            return NOT_YET;
        }
        if (code < 0 || code > LAST_CODE) {
            return OUTSIDE;
        }
        return font.findGlyph(code);
    }

    public int glyph(int g, int what) {
        if (!font.loaded) {
            return NOT_YET;
        }
        if (!font.hasGlyph(g)) {
            return UNKNOWN;
        }
        switch (what) {
            case 0: return font.advanceOf(g);
            case 1: return font.bearingOf(g);
            case 2: return font.facts[BYTES][g];
            case 3: return font.facts[CONTOURS][g];
            case 4: return font.facts[LEFT][g];
            case 5: return font.facts[POINTS][g];
            case 6: return font.facts[PARTS][g];
            case 7: return font.facts[PROGRAM_BYTES][g];
            default: return OUTSIDE;
        }
    }

    public int kern(int left, int right) {
        if (!font.loaded) {
            return NOT_YET;
        }
        if (!font.hasGlyph(left) || !font.hasGlyph(right)) {
            return UNKNOWN;
        }
        return font.kernOf(left, right);
    }

    public int size(int ppem) {
        if (!font.loaded) {
            return NOT_YET;
        }
        if (ppem < 4 || ppem > 48) {
            return OUTSIDE;
        }
        return maker.setSize(ppem);
    }

    public int make(int g) {
        if (!font.loaded || maker.ppem == 0) {
            return NOT_YET;
        }
        if (!font.hasGlyph(g)) {
            return UNKNOWN;
        }
        return maker.makeGlyph(g);
    }

    public int point(int i, int what) {
        Points outline = maker.levels[0];
        if (!maker.made || i < 0 || i >= outline.count) {
            return 0;
        }
        switch (what) {
            case 0: return outline.x[i];
            case 1: return outline.y[i];
            case 2: return outline.on[i];
            case 3: return outline.contourOf(i);
            default: return 0;
        }
    }

    public int told(int what) {
        Machine machine = maker.machine;
        switch (what) {
            case 0: return machine.steps;
            case 1: return maker.failedCount;
            case 2: return machine.failure;
            case 3: return machine.failure == 0 ? NONE : machine.place;
            case 4: return maker.made ? maker.advance : 0;
            case 5: return maker.made ? maker.levels[0].contours : 0;
            case 6: return maker.ppem;
            case 7: return maker.keptOf(SCAN);
            case 8: return maker.keptOf(SCAN_KIND);
            case 9: return machine.peak;
            default: return 0;
        }
    }

    public int held(int kind, int i) {
        Memory sized = maker.sized;
        if (maker.ppem == 0 || i < 0) {
            return 0;
        }
        if (kind == 0) {
            return i < sized.cvtCount ? sized.cvt[i] : 0;
        }
        if (kind == 1) {
            return i < sized.storageCount ? sized.storage[i] : 0;
        }
        Points twilight = sized.twilight;
        if (i >= twilight.count) {
            return 0;
        }
        switch (kind) {
            case 2: return twilight.x[i];
            case 3: return twilight.y[i];
            case 4: return twilight.ox[i];
            case 5: return twilight.oy[i];
            default: return 0;
        }
    }

    public int isIn(int x, int y) {
        if (!maker.made) {
            return NOT_YET;
        }
        if (isBeyond(x, FAR_PLACE) || isBeyond(y, FAR_PLACE)) {
            return OUTSIDE;
        }
        maker.shape.chooseRow(2 * y);
        return maker.shape.holds(2 * x, 2 * y) ? 1 : 0;
    }

    public int canvas(int width, int height) {
        if (width < 1 || width > Canvas.MOST || height < 1 || height > Canvas.MOST) {
            return OUTSIDE;
        }
        canvas.renew(width, height);
        return 1;
    }

    public int draw(int x, int y) {
        if (!maker.made || canvas.width == 0) {
            return NOT_YET;
        }
        if (isBeyond(x, FAR_DRAWN) || isBeyond(y, FAR_DRAWN)) {
            return OUTSIDE;
        }
        return canvas.fillIn(maker.shape, x, y);
    }

    public int pixel(int i, int j) {
        if (i < 0 || i >= canvas.width || j < 0 || j >= canvas.height) {
            return UNKNOWN;
        }
        return canvas.pixels[j * Canvas.MOST + i];
    }

    public int type(int code) {
        if (code < 0 || code > LAST_CODE) {
            return OUTSIDE;
        }
        if (codeCount >= MOST_CODES) {
            return NO_ROOM;
        }
        codes[codeCount] = code;
        codeCount++;
        return codeCount;
    }

    public int line(int x, int y) {
        if (!font.loaded || maker.ppem == 0 || canvas.width == 0) {
            return NOT_YET;
        }
        if (isBeyond(x, FAR_DRAWN) || isBeyond(y, FAR_DRAWN)) {
            return OUTSIDE;
        }
        int count = codeCount;
        codeCount = 0;
        long at = x;
        int before = NONE;
        for (int k = 0; k < count; k++) {
            int g = font.findGlyph(codes[k]);
            if (before != NONE) {
                at += maker.machine.scaled(font.kernOf(before, g));
            }
            int answer = maker.makeGlyph(g);
            if (answer < 0) {
                return LINE_FAILED + answer;
            }
            if (isBeyond(at, FAR_DRAWN)) {
                return LINE_TOO_FAR;
            }
            canvas.fillIn(maker.shape, (int) at, y);
            at += maker.advance;
            before = g;
        }
        return (int) at;
    }

    private static boolean isBeyond(long v, int most) {
        return v < -most || v > most;
    }

    /**
     * The whole number nearest to a / b, of two the one farther from 0. The sizes are held below 0,
     * since the size of the least long is no long.
     */
    private static long nearest(long a, long b) {
        if (b == 0) {
            return 0;
        }
        long whole = a / b;
        long rest = a % b;
        long under = rest < 0 ? rest : -rest;
        long by = b < 0 ? b : -b;
        if (under > by - under) {
            return whole;
        }
        return (a < 0) != (b < 0) ? whole - 1 : whole + 1;
    }

    private static long toWholePixel(long v) {
        return Math.floorDiv(v + PX / 2, (long) PX) * PX;
    }

    /** The bytes that were loaded, and what the checks found in them. */
    private static final class Font {
        final byte[] data = new byte[MOST_BYTES];
        int length;
        boolean loaded;
        final int[] begins = new int[TAGS.length];
        final int[] lengths = new int[TAGS.length];
        int tables;
        int units;
        int glyphs;
        int metrics;
        int locaForm;
        final int[] limits = new int[LIMIT_PLACES.length];
        int mapForm;
        int mapBegin;
        int mapLength;
        int mapCount;
        int pairs;
        final int[][] facts = new int[PROGRAM_BYTES + 1][MOST_GLYPHS];

        void take(byte[] from, int count) {
            System.arraycopy(from, 0, data, 0, count);
            length = count;
            loaded = false;
        }

        int u1(int at) {
            return at >= 0 && at < length ? data[at] & 255 : 0;
        }

        int u2(int at) {
            if (at < 0 || at + 2 > length) {
                return 0;
            }
            return (data[at] & 255) << 8 | data[at + 1] & 255;
        }

        int s2(int at) {
            if (at < 0 || at + 2 > length) {
                return 0;
            }
            return data[at] << 8 | data[at + 1] & 255;
        }

        long u4(int at) {
            return (long) u2(at) << 16 | u2(at + 2);
        }

        boolean hasTable(int kind) {
            return begins[kind] > 0;
        }

        boolean hasGlyph(int g) {
            return g >= 0 && g < glyphs;
        }

        int advanceOf(int g) {
            return u2(begins[HMTX] + 4 * Math.min(g, metrics - 1));
        }

        int bearingOf(int g) {
            int at = g < metrics ? 4 * g + 2 : 4 * metrics + 2 * (g - metrics);
            return s2(begins[HMTX] + at);
        }

        int kernOf(int left, int right) {
            for (int k = 0; k < pairs; k++) {
                int at = begins[KERN] + 18 + 6 * k;
                if (u2(at) == left && u2(at + 2) == right) {
                    return s2(at + 4);
                }
            }
            return 0;
        }

        int findGlyph(int code) {
            long found = 0;
            if (mapForm == 12) {
                found = findInGroups(code);
            } else if (mapForm == 4) {
                found = findInSegments(code);
            } else if (code < 256) {
                found = u1(mapBegin + 6 + code);
            }
            return found < glyphs ? (int) found : 0;
        }

        private long findInGroups(int code) {
            for (int k = 0; k < mapCount; k++) {
                int at = mapBegin + 16 + 12 * k;
                long first = u4(at);
                if (first <= code && code <= u4(at + 4)) {
                    return u4(at + 8) + code - first;
                }
            }
            return 0;
        }

        private int findInSegments(int code) {
            for (int k = 0; k < mapCount; k++) {
                if (u2(mapBegin + 14 + 2 * k) >= code) {
                    return findInSegment(k, code);
                }
            }
            return 0;
        }

        private int findInSegment(int k, int code) {
            int at = mapBegin + 16 + 2 * mapCount + 2 * k;
            int first = u2(at);
            int delta = u2(at + 2 * mapCount);
            int offsetPlace = at + 4 * mapCount;
            int offset = u2(offsetPlace);
            if (first > code) {
                return 0;
            }
            if (offset == 0) {
                return code + delta & 65535;
            }
            int place = offsetPlace + offset + 2 * (code - first);
            if (place + 2 > mapBegin + mapLength || u2(place) == 0) {
                return 0;
            }
            return u2(place) + delta & 65535;
        }
    }

    /** Asks the fourteen questions of loading, in their order. */
    private static final class Loader {
        private final Font font;
        private final GlyphReader reader;

        Loader(Font font, GlyphReader reader) {
            this.font = font;
            this.reader = reader;
        }

        int findFault() {
            if (!directoryHolds()) {
                return 1;
            }
            if (!tagsRise()) {
                return 2;
            }
            if (!tablesLieRight()) {
                return 3;
            }
            if (!sumsHold()) {
                return 4;
            }
            if (!findTables()) {
                return 5;
            }
            if (!headHolds()) {
                return 6;
            }
            if (!maxpHolds()) {
                return 7;
            }
            if (!hheaHolds()) {
                return 8;
            }
            if (!hmtxHolds()) {
                return 9;
            }
            if (!locaHolds()) {
                return 10;
            }
            if (!reader.glyphsHold()) {
                return 11;
            }
            if (!cmapHolds()) {
                return 12;
            }
            if (!kernHolds()) {
                return 13;
            }
            return programsHold() ? 0 : 14;
        }

        private boolean directoryHolds() {
            int n = font.u2(4);
            if (font.length < 12 || font.u4(0) != 65536 || n < 1 || n > 16) {
                return false;
            }
            int e = 0;
            for (int k = 1; k <= 4; k++) {
                if (1 << k <= n) {
                    e = k;
                }
            }
            int s = 16 << e;
            font.tables = n;
            return font.u2(6) == s && font.u2(8) == e && font.u2(10) == 16 * n - s
                && 12 + 16 * n <= font.length;
        }

        private long entry(int k, int what) {
            return font.u4(12 + 16 * k + 4 * what);
        }

        private boolean tagsRise() {
            for (int k = 1; k < font.tables; k++) {
                if (entry(k, 0) <= entry(k - 1, 0)) {
                    return false;
                }
            }
            return true;
        }

        private boolean tablesLieRight() {
            for (int k = 0; k < font.tables; k++) {
                long begin = entry(k, 2);
                if (begin % 4 != 0 || begin < 12 + 16 * font.tables || begin + entry(k, 3) > font.length) {
                    return false;
                }
                for (int j = 0; j < k; j++) {
                    if (shareBytes(j, k)) {
                        return false;
                    }
                }
            }
            return true;
        }

        private boolean shareBytes(int j, int k) {
            long from = Math.max(entry(j, 2), entry(k, 2));
            long to = Math.min(entry(j, 2) + entry(j, 3), entry(k, 2) + entry(k, 3));
            return from < to;
        }

        private boolean sumsHold() {
            for (int k = 0; k < font.tables; k++) {
                boolean isHead = (int) entry(k, 0) == TAGS[HEAD];
                if (sumOf((int) entry(k, 2), (int) entry(k, 3), isHead) != entry(k, 1)) {
                    return false;
                }
            }
            return true;
        }

        /** Byte by byte, since behind the end 0s count and not what stands there. */
        private long sumOf(int begin, int length, boolean isHead) {
            long sum = 0;
            for (int i = 0; i < length; i++) {
                if (!isHead || i < 8 || i > 11) {
                    sum += (long) font.u1(begin + i) << 24 - 8 * (i & 3);
                }
            }
            return sum & 0xffffffffL;
        }

        private boolean findTables() {
            for (int kind = 0; kind < TAGS.length; kind++) {
                font.begins[kind] = 0;
                font.lengths[kind] = 0;
                for (int k = 0; k < font.tables; k++) {
                    if ((int) entry(k, 0) == TAGS[kind]) {
                        font.begins[kind] = (int) entry(k, 2);
                        font.lengths[kind] = (int) entry(k, 3);
                    }
                }
            }
            for (int kind = 0; kind < NEEDED; kind++) {
                if (!font.hasTable(kind)) {
                    return false;
                }
            }
            return true;
        }

        private boolean headHolds() {
            int at = font.begins[HEAD];
            font.units = font.u2(at + 18);
            font.locaForm = font.s2(at + 50);
            return font.lengths[HEAD] == 54 && font.u4(at) == 65536 && font.u4(at + 12) == 1594834165L
                && font.units >= 16 && font.units <= 16384
                && (font.locaForm == 0 || font.locaForm == 1) && font.s2(at + 52) == 0
                && sumOf(0, font.length, false) == 2981146554L;
        }

        private boolean maxpHolds() {
            int at = font.begins[MAXP];
            font.glyphs = font.u2(at + 4);
            if (font.lengths[MAXP] != 32 || font.u4(at) != 65536
                || font.glyphs < 1 || font.glyphs > MOST_GLYPHS) {
                return false;
            }
            for (int k = 0; k < LIMIT_PLACES.length; k++) {
                int limit = font.u2(at + LIMIT_PLACES[k]);
                if (limit < LIMIT_LEASTS[k] || limit > LIMIT_MOSTS[k]) {
                    return false;
                }
                font.limits[k] = limit;
            }
            return font.limits[ZONES] == 2 || font.limits[TWILIGHT] == 0;
        }

        private boolean hheaHolds() {
            font.metrics = font.u2(font.begins[HHEA] + 34);
            return font.lengths[HHEA] == 36 && font.metrics >= 1 && font.metrics <= font.glyphs;
        }

        private boolean hmtxHolds() {
            return font.lengths[HMTX] >= 4 * font.metrics + 2 * (font.glyphs - font.metrics);
        }

        private long placeInGlyf(int g) {
            int at = font.begins[LOCA];
            return font.locaForm == 0 ? 2L * font.u2(at + 2 * g) : font.u4(at + 4 * g);
        }

        private boolean locaHolds() {
            int each = font.locaForm == 0 ? 2 : 4;
            if (font.lengths[LOCA] < each * (font.glyphs + 1)) {
                return false;
            }
            for (int g = 0; g < font.glyphs; g++) {
                long from = placeInGlyf(g);
                long to = placeInGlyf(g + 1);
                if (from > to || to > font.lengths[GLYF]) {
                    return false;
                }
                font.facts[BEGIN][g] = font.begins[GLYF] + (int) from;
                font.facts[BYTES][g] = (int) (to - from);
            }
            return true;
        }

        private boolean cmapHolds() {
            int at = font.begins[CMAP];
            int length = font.lengths[CMAP];
            int records = font.u2(at + 2);
            if (length < 4 || font.u2(at) != 0 || records < 1 || records > 8 || 4 + 8 * records > length) {
                return false;
            }
            long place = mapPlace(records, 3, 10);
            if (place != NONE) {
                return groupsHold(place);
            }
            place = mapPlace(records, 3, 1);
            if (place != NONE) {
                return segmentsHold(place);
            }
            place = mapPlace(records, 1, 0);
            return place != NONE && byteMapHolds(place);
        }

        private long mapPlace(int records, int first, int second) {
            for (int k = 0; k < records; k++) {
                int at = font.begins[CMAP] + 4 + 8 * k;
                if (font.u2(at) == first && font.u2(at + 2) == second) {
                    return font.u4(at + 4);
                }
            }
            return NONE;
        }

        /** Whether a map with so many bytes at its head can begin there; it is noted then. */
        private boolean noteMap(long place, int headBytes, int form) {
            if (place + headBytes > font.lengths[CMAP]) {
                return false;
            }
            font.mapBegin = font.begins[CMAP] + (int) place;
            font.mapForm = form;
            return font.u2(font.mapBegin) == form;
        }

        private boolean byteMapHolds(long place) {
            font.mapLength = 262;
            font.mapCount = 256;
            return noteMap(place, 262, 0) && font.u2(font.mapBegin + 2) == 262;
        }

        private boolean segmentsHold(long place) {
            if (!noteMap(place, 14, 4)) {
                return false;
            }
            int at = font.mapBegin;
            int twice = font.u2(at + 6);
            int s = twice / 2;
            font.mapLength = font.u2(at + 2);
            font.mapCount = s;
            if (place + font.mapLength > font.lengths[CMAP] || twice % 2 != 0 || s < 1 || s > 40
                || 16 + 8 * s > font.mapLength) {
                return false;
            }
            int before = -1;
            for (int k = 0; k < s; k++) {
                int end = font.u2(at + 14 + 2 * k);
                int begin = font.u2(at + 16 + 2 * s + 2 * k);
                int offset = font.u2(at + 16 + 6 * s + 2 * k);
                if (end <= before || begin > end || offset % 2 != 0) {
                    return false;
                }
                before = end;
            }
            return before == 65535;
        }

        private boolean groupsHold(long place) {
            if (!noteMap(place, 16, 12)) {
                return false;
            }
            int at = font.mapBegin;
            long length = font.u4(at + 4);
            long groups = font.u4(at + 12);
            if (place + length > font.lengths[CMAP] || groups < 1 || groups > 40 || 16 + 12 * groups > length) {
                return false;
            }
            font.mapLength = (int) length;
            font.mapCount = (int) groups;
            long before = -1;
            for (int k = 0; k < groups; k++) {
                long first = font.u4(at + 16 + 12 * k);
                long last = font.u4(at + 20 + 12 * k);
                if (first <= before || first > last) {
                    return false;
                }
                before = last;
            }
            return true;
        }

        private boolean kernHolds() {
            font.pairs = 0;
            if (!font.hasTable(KERN)) {
                return true;
            }
            int at = font.begins[KERN];
            int length = font.lengths[KERN];
            int pairs = font.u2(at + 10);
            if (length < 18 || font.u2(at) != 0 || font.u2(at + 2) < 1 || font.u2(at + 8) != 1
                || pairs > 500 || 18 + 6 * pairs > length) {
                return false;
            }
            long before = -1;
            for (int k = 0; k < pairs; k++) {
                long pair = font.u4(at + 18 + 6 * k);
                if (pair <= before) {
                    return false;
                }
                before = pair;
            }
            font.pairs = pairs;
            return true;
        }

        private boolean programsHold() {
            return font.lengths[CVT] % 2 == 0 && font.lengths[CVT] <= 512
                && font.lengths[FPGM] <= 2000 && font.lengths[PREP] <= 2000;
        }
    }

    /** Reads the bytes of glyphs: outlines of their own, parts, programs. */
    private static final class GlyphReader {
        private final Font font;
        private final Points scratch = new Points(MOST_POINTS, 0);
        private final int[] flags = new int[MOST_POINTS];
        private final int[] depths = new int[MOST_GLYPHS];
        private int at;
        private int end;
        private boolean torn;
        int partFlags;
        int partGlyph;
        int firstNumber;
        int secondNumber;
        int a;
        int b;
        int c;
        int d;

        GlyphReader(Font font) {
            this.font = font;
        }

        boolean glyphsHold() {
            for (int g = 0; g < font.glyphs; g++) {
                if (!glyphHolds(g)) {
                    return false;
                }
            }
            return depthsHold();
        }

        private boolean glyphHolds(int g) {
            for (int fact = CONTOURS; fact <= PROGRAM_BYTES; fact++) {
                font.facts[fact][g] = 0;
            }
            if (font.facts[BYTES][g] == 0) {
                return true;
            }
            if (font.facts[BYTES][g] < 10) {
                return false;
            }
            int contours = font.s2(font.facts[BEGIN][g]);
            font.facts[CONTOURS][g] = contours;
            font.facts[LEFT][g] = font.s2(font.facts[BEGIN][g] + 2);
            if (contours == -1) {
                return partsHold(g);
            }
            if (contours < 0 || contours > MOST_OWN_CONTOURS || !readOutline(g, scratch)) {
                return false;
            }
            font.facts[POINTS][g] = scratch.count;
            return true;
        }

        private void goTo(int g) {
            at = font.facts[BEGIN][g] + 10;
            end = font.facts[BEGIN][g] + font.facts[BYTES][g];
            torn = false;
        }

        private int takeU1() {
            at++;
            if (at > end) {
                torn = true;
                return 0;
            }
            return font.u1(at - 1);
        }

        private int takeU2() {
            at += 2;
            if (at > end) {
                torn = true;
                return 0;
            }
            return font.u2(at - 2);
        }

        private int takeS2() {
            at += 2;
            if (at > end) {
                torn = true;
                return 0;
            }
            return font.s2(at - 2);
        }

        /** The points as they stand in the bytes, not scaled; false if the bytes are not as they must be. */
        boolean readOutline(int g, Points into) {
            goTo(g);
            int contours = Math.min(font.facts[CONTOURS][g], MOST_OWN_CONTOURS);
            int last = -1;
            for (int k = 0; k < contours; k++) {
                int next = takeU2();
                if (torn || next <= last || next >= MOST_POINTS) {
                    return false;
                }
                into.ends[k] = next;
                last = next;
            }
            into.contours = Math.max(contours, 0);
            into.count = last + 1;
            if (!takeProgram(g) || !takeFlags(into.count)) {
                return false;
            }
            for (int k = 0; k < into.count; k++) {
                into.on[k] = flags[k] & 1;
            }
            takePlaces(into.x, into.count, 2, 16);
            takePlaces(into.y, into.count, 4, 32);
            return !torn;
        }

        private boolean takeProgram(int g) {
            int count = takeU2();
            if (torn || count > MOST_PROGRAM || at + count > end) {
                return false;
            }
            font.facts[PROGRAM_BEGIN][g] = at;
            font.facts[PROGRAM_BYTES][g] = count;
            at += count;
            return true;
        }

        private boolean takeFlags(int count) {
            int k = 0;
            for (int turn = 0; turn < count && k < count; turn++) {
                int flag = takeU1();
                int more = (flag & 8) != 0 ? takeU1() : 0;
                if (torn || k + more >= count) {
                    return false;
                }
                for (int j = 0; j <= more; j++) {
                    flags[k + j] = flag;
                }
                k += more + 1;
            }
            return true;
        }

        private void takePlaces(int[] into, int count, int byteBit, int otherBit) {
            int sum = 0;
            for (int k = 0; k < count; k++) {
                boolean other = (flags[k] & otherBit) != 0;
                if ((flags[k] & byteBit) != 0) {
                    int step = takeU1();
                    sum += other ? step : -step;
                } else if (!other) {
                    sum += takeS2();
                }
                into[k] = sum;
            }
        }

        private boolean partsHold(int g) {
            goTo(g);
            for (int k = 1; k <= MOST_PARTS; k++) {
                takePart();
                if (torn || partGlyph >= font.glyphs) {
                    return false;
                }
                font.facts[PARTS][g] = k;
                if ((partFlags & 32) == 0) {
                    return (partFlags & 256) == 0 || takeProgram(g);
                }
            }
            return false;
        }

        /** Reads part number k of a glyph that is known to hold. */
        void readPart(int g, int k) {
            goTo(g);
            for (int j = 0; j <= k && j < MOST_PARTS; j++) {
                takePart();
            }
        }

        private void takePart() {
            partFlags = takeU2();
            partGlyph = takeU2();
            boolean wide = (partFlags & 1) != 0;
            firstNumber = wide ? takeU2() : takeU1();
            secondNumber = wide ? takeU2() : takeU1();
            if ((partFlags & 2) != 0) {
                firstNumber = wide ? (short) firstNumber : (byte) firstNumber;
                secondNumber = wide ? (short) secondNumber : (byte) secondNumber;
            }
            a = ONE;
            b = 0;
            c = 0;
            d = ONE;
            if ((partFlags & 8) != 0) {
                a = takeS2();
                d = a;
            } else if ((partFlags & 64) != 0) {
                a = takeS2();
                d = takeS2();
            } else if ((partFlags & 128) != 0) {
                a = takeS2();
                b = takeS2();
                c = takeS2();
                d = takeS2();
            }
        }

        /**
         * Each round finds at least one level more, so that after one round more than the depth
         * allows a ring of parts has grown beyond it, too.
         */
        private boolean depthsHold() {
            int most = font.limits[DEPTH];
            Arrays.fill(depths, 0);
            for (int round = 0; round <= most; round++) {
                for (int g = 0; g < font.glyphs; g++) {
                    if (font.facts[PARTS][g] > 0) {
                        depths[g] = 1 + deepestPart(g);
                    }
                    if (depths[g] > most) {
                        return false;
                    }
                }
            }
            return true;
        }

        private int deepestPart(int g) {
            int deepest = 0;
            goTo(g);
            for (int k = 0; k < font.facts[PARTS][g]; k++) {
                takePart();
                deepest = Math.max(deepest, partGlyph < MOST_GLYPHS ? depths[partGlyph] : 0);
            }
            return deepest;
        }
    }

    /** Points with where they stood and where they stand: a glyph's, or the twilight ones. */
    private static final class Points {
        final int[] x;
        final int[] y;
        final int[] ox;
        final int[] oy;
        final int[] touched;
        final int[] on;
        final int[] ends = new int[MOST_CONTOURS];
        final int[] phantomX = new int[2];
        final int[] phantomY = new int[2];
        int count;
        int contours;
        int phantoms;

        Points(int room, int phantoms) {
            x = new int[room + phantoms];
            y = new int[room + phantoms];
            ox = new int[room + phantoms];
            oy = new int[room + phantoms];
            touched = new int[room + phantoms];
            on = new int[room + phantoms];
            this.phantoms = phantoms;
        }

        boolean has(int i) {
            return i >= 0 && i < count + phantoms;
        }

        int firstOf(int contour) {
            return contour == 0 ? 0 : ends[contour - 1] + 1;
        }

        int contourOf(int i) {
            for (int k = 0; k < contours; k++) {
                if (i <= ends[k]) {
                    return k;
                }
            }
            return 0;
        }

        void clearTo(int points) {
            count = points;
            contours = 0;
            Arrays.fill(x, 0);
            Arrays.fill(y, 0);
            Arrays.fill(ox, 0);
            Arrays.fill(oy, 0);
            Arrays.fill(touched, 0);
        }

        void copyFrom(Points other) {
            count = other.count;
            System.arraycopy(other.x, 0, x, 0, count);
            System.arraycopy(other.y, 0, y, 0, count);
            System.arraycopy(other.ox, 0, ox, 0, count);
            System.arraycopy(other.oy, 0, oy, 0, count);
            System.arraycopy(other.touched, 0, touched, 0, count);
        }

        /** What is current becomes what is original, and only then are the phantoms rounded. */
        void beginProgram() {
            for (int k = 0; k < phantoms; k++) {
                x[count + k] = phantomX[k];
                y[count + k] = phantomY[k];
            }
            int all = count + phantoms;
            System.arraycopy(x, 0, ox, 0, all);
            System.arraycopy(y, 0, oy, 0, all);
            Arrays.fill(touched, 0);
            for (int k = count; k < all; k++) {
                x[k] = (int) toWholePixel(x[k]);
            }
        }

        void endProgram() {
            for (int k = 0; k < phantoms; k++) {
                phantomX[k] = x[count + k];
                phantomY[k] = y[count + k];
            }
        }

        boolean liesWithin(int most) {
            for (int i = 0; i < count; i++) {
                if (isBeyond(x[i], most) || isBeyond(y[i], most)) {
                    return false;
                }
            }
            return true;
        }

        void shift(int from, int byX, int byY) {
            for (int i = from; i < count; i++) {
                x[i] += byX;
                y[i] += byY;
            }
        }
    }

    /** What programs remember: a size leaves one, and each glyph's program begins with a copy of it. */
    private static final class Memory {
        final int[] cvt = new int[MOST_CVT];
        int cvtCount;
        final int[] storage = new int[MOST_STORAGE];
        int storageCount;
        final Points twilight = new Points(MOST_TWILIGHT, 0);
        final int[] kept = new int[KEPT_AT_FIRST.length];

        void renew(Font font, int ppem) {
            cvtCount = Math.min(font.lengths[CVT] / 2, MOST_CVT);
            for (int k = 0; k < cvtCount; k++) {
                long units = font.s2(font.begins[CVT] + 2 * k);
                cvt[k] = (int) nearest(units * ppem * PX, font.units);
            }
            storageCount = font.limits[STORAGE];
            Arrays.fill(storage, 0);
            twilight.clearTo(font.limits[TWILIGHT]);
            System.arraycopy(KEPT_AT_FIRST, 0, kept, 0, kept.length);
        }

        void copyFrom(Memory other) {
            cvtCount = other.cvtCount;
            storageCount = other.storageCount;
            System.arraycopy(other.cvt, 0, cvt, 0, cvtCount);
            System.arraycopy(other.storage, 0, storage, 0, storageCount);
            twilight.copyFrom(other.twilight);
            System.arraycopy(other.kept, 0, kept, 0, kept.length);
        }

        boolean hasCvt(int i) {
            return i >= 0 && i < cvtCount;
        }

        boolean hasStorage(int i) {
            return i >= 0 && i < storageCount;
        }
    }

    /** The settings that begin anew with each program. */
    private static final class Settings {
        int fx;
        int fy;
        int px;
        int py;
        int dx;
        int dy;
        final int[] rp = new int[3];
        final int[] zp = new int[3];
        int loop;
        private int period;
        private int phase;
        private int threshold;
        int wayX;
        int wayY;

        void renew() {
            goAlong(1);
            Arrays.fill(rp, 0);
            Arrays.fill(zp, 1);
            loop = 1;
            roundBy(24);
        }

        /** Codes 0 to 5: the even ones go along y, and each pair sets other vectors. */
        void goAlong(int code) {
            wayX = (code & 1) == 1 ? ONE : 0;
            wayY = ONE - wayX;
            if (code < 4) {
                useWayForP();
            }
            if (code < 2 || code > 3) {
                useWayForF();
            }
        }

        void useWayForP() {
            px = wayX;
            py = wayY;
            dx = wayX;
            dy = wayY;
        }

        void useWayForF() {
            fx = wayX;
            fy = wayY;
        }

        void turnWayLeft() {
            int was = wayX;
            wayX = -wayY;
            wayY = was;
        }

        /** The direction of x, y as wayX, wayY. */
        void findWay(long x, long y) {
            if (x == 0 && y == 0) {
                wayX = ONE;
                wayY = 0;
                return;
            }
            for (int turn = 0; turn < 64 && (isBeyond(x, 30000) || isBeyond(y, 30000)); turn++) {
                x /= 2;
                y /= 2;
            }
            wayX = shareOf(x, x * x + y * y);
            wayY = shareOf(y, x * x + y * y);
        }

        /**
         * v times 16384 by the root of square: the greatest n with n - 1/2 not above that,
         * both sides doubled and squared, so that no root is needed and none is inexact.
         */
        private static int shareOf(long v, long square) {
            long goal = 32768 * v * (32768 * v);
            int low = 0;
            int high = ONE;
            for (int turn = 0; turn < 20 && low < high; turn++) {
                int middle = (low + high + 1) / 2;
                long odd = 2L * middle - 1;
                if (odd * odd * square <= goal) {
                    low = middle;
                } else {
                    high = middle - 1;
                }
            }
            return v < 0 ? -low : low;
        }

        void roundBy(int code) {
            period = code == 61 ? 32 : code == 122 ? 0 : 64;
            phase = code == 25 ? 32 : 0;
            switch (code) {
                case 61: threshold = 16; break;
                case 124: threshold = 63; break;
                case 125: threshold = 0; break;
                default: threshold = 32; break;
            }
        }

        /** Codes 118 and 119, by the least period of each; false if the number tells no period. */
        boolean roundFinely(int n, int code) {
            int kind = n >> 6 & 3;
            if (kind == 3) {
                return false;
            }
            period = code == 118 ? 32 << kind : kind == 0 ? 22 : 45 * kind;
            phase = (n >> 4 & 3) * period / 4;
            int k = n & 15;
            threshold = k == 0 ? period - 1 : (k - 4) * period / 8;
            return true;
        }

        long rounded(long v) {
            if (period <= 0) {
                return v;
            }
            long size = v < 0 ? -v : v;
            long found = Math.floorDiv(size - phase + threshold, (long) period) * period + phase;
            if (found < 0) {
                found = phase;
            }
            return v < 0 ? -found : found;
        }
    }

    /** The functions and own codes that there are, and which of them stand open. */
    private static final class Calls {
        private static final int ALL = MOST_FUNCTIONS + 256;
        final int[] bases = new int[ALL];
        final int[] ends = new int[ALL];
        final int[] starts = new int[ALL];
        int ownCount;
        final int[] routines = new int[MOST_CALLS];
        final int[] timesLeft = new int[MOST_CALLS];
        final int[] backBases = new int[MOST_CALLS];
        final int[] backEnds = new int[MOST_CALLS];
        final int[] backs = new int[MOST_CALLS];
        int open;

        void forgetAll() {
            Arrays.fill(starts, NONE);
            ownCount = 0;
            open = 0;
        }

        static int ownCode(int code) {
            return MOST_FUNCTIONS + code;
        }

        boolean has(int routine) {
            return routine >= 0 && routine < ALL && starts[routine] != NONE;
        }

        boolean hasFunction(int f) {
            return f >= 0 && f < MOST_FUNCTIONS && starts[f] != NONE;
        }
    }

    /** Runs programs. A failure is noted, not thrown: each step ends as soon as there is one. */
    private static final class Machine {
        private final Font font;
        private final Settings settings = new Settings();
        private final Calls calls = new Calls();
        private final Points nowhere = new Points(0, 0);
        private final int[] stack = new int[MOST_STACK];
        private int height;
        private Memory memory;
        private Points outline = nowhere;
        private boolean mayDefine;
        private int base;
        private int end;
        private int pc;
        int ppem;
        int steps;
        int failure;
        int place = NONE;
        int peak;

        Machine(Font font, Memory memory) {
            this.font = font;
            this.memory = memory;
        }

        void beginCount() {
            steps = 0;
            failure = 0;
            place = NONE;
        }

        void beginSize(int ppem) {
            this.ppem = ppem;
            calls.forgetAll();
            beginCount();
        }

        void failOutside(int why) {
            failure = why;
            place = NONE;
        }

        long scaled(long v) {
            return nearest(v * ppem * PX, font.units);
        }

        void runForSize(int begin, int count, Memory with) {
            run(begin, count, with, nowhere);
        }

        void run(int begin, int count, Memory with, Points points) {
            mayDefine = points == nowhere;
            memory = with;
            outline = points;
            base = begin;
            end = begin + count;
            pc = begin;
            height = 0;
            calls.open = 0;
            settings.renew();
            for (int turn = 0; turn <= MOST_STEPS && failure == 0 && !isAtEnd(); turn++) {
                place = pc - base;
                int code = beginStep();
                if (failure != 0) {
                    return;
                }
                switch (GROUPS[code]) {
                    case VECTORS: vectorCodes(code); break;
                    case SETTINGS: settingCodes(code); break;
                    case FLOW: flowCodes(code); break;
                    case STACKING: stackCodes(code); break;
                    case MEMORY: memoryCodes(code); break;
                    case COMPARING: comparingCodes(code); break;
                    case RECKONING: reckoningCodes(code); break;
                    case SINGLE_POINTS: singlePointCodes(code); break;
                    case MANY_POINTS: manyPointCodes(code); break;
                    case MEASURED: measuredCodes(code); break;
                    case DELTAS: deltaCodes(code); break;
                    case SHIFTS: shiftByReference(code); break;
                    default: callOwnCode(code); break;
                }
            }
        }

        private boolean isAtEnd() {
            if (pc < end) {
                return false;
            }
            if (calls.open > 0) {
                failure = ENDED;
            }
            return true;
        }

        private int beginStep() {
            if (steps >= MOST_STEPS) {
                failure = TOO_LONG;
                return 0;
            }
            steps++;
            int code = font.u1(pc);
            pc++;
            int takes = TAKES[code];
            if (takes == LOOP_TIMES) {
                takes = settings.loop;
            } else if (takes == LOOP_AND_ONE) {
                takes = settings.loop + 1;
            }
            if (height < takes) {
                failure = TOO_FEW;
            }
            return code;
        }

        private int pop() {
            if (height <= 0) {
                failure = TOO_FEW;
                return 0;
            }
            height--;
            return stack[height];
        }

        private void push(long v) {
            if (height >= font.limits[STACK] || height >= MOST_STACK) {
                failure = TOO_MANY;
                return;
            }
            stack[height] = (int) v;
            height++;
            if (peak < height) {
                peak = height;
            }
        }

        private Points zone(int pointer) {
            return settings.zp[pointer] == 0 ? memory.twilight : outline;
        }

        /** Whether the point is there; a failure if not. */
        private boolean isThere(Points zone, int i) {
            if (!zone.has(i)) {
                failure = NO_POINT;
            }
            return zone.has(i);
        }

        private long longByP(long x, long y) {
            return (int) nearest(x * settings.px + y * settings.py, ONE);
        }

        private long longByD(long x, long y) {
            return (int) nearest(x * settings.dx + y * settings.dy, ONE);
        }

        private long longBetween(Points zone, int i, Points other, int j) {
            long x = zone.x[i] - other.x[j];
            long y = zone.y[i] - other.y[j];
            return (int) nearest(x * settings.px + y * settings.py, ONE);
        }

        private long originalBetween(Points zone, int i, Points other, int j) {
            long x = zone.ox[i] - other.ox[j];
            long y = zone.oy[i] - other.oy[j];
            return (int) nearest(x * settings.dx + y * settings.dy, ONE);
        }

        private void move(Points zone, int i, long d) {
            long q = nearest((long) settings.fx * settings.px + (long) settings.fy * settings.py, ONE);
            if (q > -1024 && q < 1024) {
                q = ONE;
            }
            zone.x[i] += (int) nearest(d * settings.fx, q);
            zone.y[i] += (int) nearest(d * settings.fy, q);
            zone.touched[i] |= touchBits();
        }

        private int touchBits() {
            return (settings.fx != 0 ? TOUCHED_X : 0) | (settings.fy != 0 ? TOUCHED_Y : 0);
        }

        private void vectorCodes(int code) {
            switch (code) {
                case 6: case 7: case 8: case 9:
                    goAlongLine(code);
                    return;
                case 10: case 11:
                    goAlongNumbers(code);
                    return;
                case 12:
                    push(settings.px);
                    push(settings.py);
                    return;
                case 13:
                    push(settings.fx);
                    push(settings.fy);
                    return;
                case 14:
                    settings.fx = settings.px;
                    settings.fy = settings.py;
                    return;
                case 134: case 135:
                    goAlongBothLines(code);
                    return;
                default:
                    settings.goAlong(code);
            }
        }

        private void goAlongNumbers(int code) {
            int y = pop();
            int x = pop();
            settings.findWay((short) x, (short) y);
            if (code == 10) {
                settings.useWayForP();
            } else {
                settings.useWayForF();
            }
        }

        private void goAlongLine(int code) {
            int q = pop();
            int p = pop();
            Points first = zone(1);
            Points second = zone(2);
            if (!isThere(first, p) || !isThere(second, q)) {
                return;
            }
            settings.findWay(first.x[p] - second.x[q], first.y[p] - second.y[q]);
            if ((code & 1) == 1) {
                settings.turnWayLeft();
            }
            if (code < 8) {
                settings.useWayForP();
            } else {
                settings.useWayForF();
            }
        }

        private void goAlongBothLines(int code) {
            int q = pop();
            int p = pop();
            Points first = zone(1);
            Points second = zone(2);
            if (!isThere(first, p) || !isThere(second, q)) {
                return;
            }
            settings.findWay(first.x[p] - second.x[q], first.y[p] - second.y[q]);
            if (code == 135) {
                settings.turnWayLeft();
            }
            settings.useWayForP();
            settings.findWay(first.ox[p] - second.ox[q], first.oy[p] - second.oy[q]);
            if (code == 135) {
                settings.turnWayLeft();
            }
            settings.dx = settings.wayX;
            settings.dy = settings.wayY;
        }

        private void settingCodes(int code) {
            int n = TAKES[code] == 1 ? pop() : 0;
            int[] kept = memory.kept;
            switch (code) {
                case 16: case 17: case 18: settings.rp[code - 16] = n; return;
                case 19: case 20: case 21: case 22: setZones(code, n); return;
                case 23: setLoop(n); return;
                case 26: kept[LEAST] = n; return;
                case 29: kept[CUT] = n; return;
                case 30: kept[SINGLE_CUT] = n; return;
                case 31: kept[SINGLE] = (int) scaled(n); return;
                case 77: kept[FLIP] = 1; return;
                case 78: kept[FLIP] = 0; return;
                case 94: kept[BASE] = n; return;
                case 95: setShift(n); return;
                case 118: case 119:
                    if (!settings.roundFinely(n, code)) {
                        failure = BAD_NUMBER;
                    }
                    return;
                case 133: kept[SCAN] = n; return;
                case 141: kept[SCAN_KIND] = n; return;
                default: settings.roundBy(code);
            }
        }

        private boolean isZone(int n) {
            return n == 1 || n == 0 && font.limits[ZONES] == 2;
        }

        private void setZones(int code, int n) {
            if (!isZone(n)) {
                failure = NO_POINT;
                return;
            }
            for (int k = 0; k < 3; k++) {
                if (code == 22 || code == 19 + k) {
                    settings.zp[k] = n;
                }
            }
        }

        private void setLoop(int n) {
            if (n < 1 || n > 65535) {
                failure = BAD_NUMBER;
                return;
            }
            settings.loop = n;
        }

        private void setShift(int n) {
            if (n < 0 || n > 6) {
                failure = BAD_NUMBER;
                return;
            }
            memory.kept[SHIFT] = n;
        }

        private void flowCodes(int code) {
            switch (code) {
                case 27: passBranch(false); return;
                case 28: jump(pop()); return;
                case 42: callTimes(); return;
                case 43: callOnce(); return;
                case 44:
                    if (noteFunction()) {
                        passDefinition();
                    }
                    return;
                case 45: endRoutine(); return;
                case 88:
                    if (pop() == 0) {
                        passBranch(true);
                    }
                    return;
                case 120: case 121: jumpIf(code == 120); return;
                case 137:
                    if (noteOwnCode()) {
                        passDefinition();
                    }
                    return;
                default: return;
            }
        }

        private void jumpIf(boolean wanted) {
            boolean holds = pop() != 0;
            int n = pop();
            if (holds == wanted) {
                jump(n);
            }
        }

        private void jump(int n) {
            long to = (long) base + place + n;
            if (to < base || to > end) {
                failure = JUMPED_OUT;
                return;
            }
            pc = (int) to;
        }

        /** Goes to behind the code at pc and its bytes; false if the program ends within them. */
        private boolean passCode() {
            int code = font.u1(pc);
            int count = 1;
            if (code == 64 || code == 65) {
                count = pc + 1 < end ? 2 + font.u1(pc + 1) * (code - 63) : 2;
            } else if (code >= 176 && code <= 183) {
                count = code - 174;
            } else if (code >= 184 && code <= 191) {
                count = 1 + 2 * (code - 183);
            }
            pc += count;
            return pc <= end;
        }

        private void passBranch(boolean elseCounts) {
            int inner = 0;
            for (int turn = 0; turn < MOST_BYTES && pc < end; turn++) {
                int code = font.u1(pc);
                if (!passCode()) {
                    break;
                }
                if (inner == 0 && (code == 89 || elseCounts && code == 27)) {
                    return;
                }
                if (code == 88) {
                    inner++;
                } else if (code == 89) {
                    inner--;
                }
            }
            failure = ENDED;
        }

        private void passDefinition() {
            for (int turn = 0; turn < MOST_BYTES && pc < end; turn++) {
                int code = font.u1(pc);
                if (!passCode()) {
                    break;
                }
                if (code == 45) {
                    return;
                }
            }
            failure = ENDED;
        }

        private boolean isDefining() {
            return mayDefine && calls.open == 0;
        }

        /** Notes a function that begins here; a failure if it cannot. */
        private boolean noteFunction() {
            int f = pop();
            if (!isDefining()) {
                failure = NO_CODE;
            } else if (f < 0 || f >= font.limits[FUNCTIONS]) {
                failure = NO_ENTRY;
            } else {
                noteRoutine(f);
            }
            return failure == 0;
        }

        private boolean noteOwnCode() {
            int c = pop();
            int routine = Calls.ownCode(c);
            if (!isDefining()) {
                failure = NO_CODE;
            } else if (c < 0 || c > 255) {
                failure = BAD_NUMBER;
            } else if (calls.has(routine)) {
                noteRoutine(routine);
            } else if (calls.ownCount >= font.limits[OWN_CODES]) {
                failure = NO_ENTRY;
            } else {
                calls.ownCount++;
                noteRoutine(routine);
            }
            return failure == 0;
        }

        private void noteRoutine(int routine) {
            calls.bases[routine] = base;
            calls.ends[routine] = end;
            calls.starts[routine] = pc;
        }

        private void callOnce() {
            int f = pop();
            if (!calls.hasFunction(f)) {
                failure = NO_ENTRY;
                return;
            }
            enter(f, 1);
        }

        private void callTimes() {
            int f = pop();
            int n = pop();
            if (!calls.hasFunction(f)) {
                failure = NO_ENTRY;
                return;
            }
            if (n >= 1) {
                enter(f, n);
            }
        }

        private void callOwnCode(int code) {
            int routine = Calls.ownCode(code);
            if (!calls.has(routine)) {
                failure = NO_CODE;
                return;
            }
            enter(routine, 1);
        }

        private void enter(int routine, int times) {
            int k = calls.open;
            if (k >= MOST_CALLS) {
                failure = TOO_DEEP;
                return;
            }
            calls.routines[k] = routine;
            calls.timesLeft[k] = times;
            calls.backBases[k] = base;
            calls.backEnds[k] = end;
            calls.backs[k] = pc;
            calls.open = k + 1;
            base = calls.bases[routine];
            end = calls.ends[routine];
            pc = calls.starts[routine];
        }

        private void endRoutine() {
            int k = calls.open - 1;
            if (k < 0) {
                failure = ENDED;
                return;
            }
            calls.timesLeft[k]--;
            if (calls.timesLeft[k] > 0) {
                pc = calls.starts[calls.routines[k]];
                return;
            }
            base = calls.backBases[k];
            end = calls.backEnds[k];
            pc = calls.backs[k];
            calls.open = k;
        }

        private void stackCodes(int code) {
            switch (code) {
                case 32: doubleTop(); return;
                case 33: pop(); return;
                case 34: height = 0; return;
                case 35: rollTop(2); return;
                case 36: push(height); return;
                case 37: case 38: reachBelow(code); return;
                case 64: case 65: pushCounted(code); return;
                case 138: rollTop(3); return;
                default: pushBehind(code % 8 + 1, code < 184 ? 1 : 2);
            }
        }

        private void doubleTop() {
            int top = pop();
            push(top);
            push(top);
        }

        /** The lowest of the topmost numbers comes to lie on top of the others. */
        private void rollTop(int count) {
            if (count < 1 || height < count) {
                failure = TOO_FEW;
                return;
            }
            int lowest = stack[height - count];
            for (int k = height - count; k < height - 1; k++) {
                stack[k] = stack[k + 1];
            }
            stack[height - 1] = lowest;
        }

        private void reachBelow(int code) {
            int k = pop();
            if (k < 1 || k > height) {
                failure = TOO_FEW;
                return;
            }
            if (code == 37) {
                push(stack[height - k]);
            } else {
                rollTop(k);
            }
        }

        private void pushCounted(int code) {
            int count = font.u1(pc);
            pc++;
            if (pc > end) {
                failure = ENDED;
                return;
            }
            pushBehind(count, code - 63);
        }

        private void pushBehind(int count, int width) {
            if (pc + count * width > end) {
                failure = ENDED;
                return;
            }
            for (int k = 0; k < count && failure == 0; k++) {
                push(width == 1 ? font.u1(pc) : font.s2(pc));
                pc += width;
            }
        }

        private void memoryCodes(int code) {
            switch (code) {
                case 66: case 68: case 112: write(code); return;
                case 67: case 69: read(code); return;
                case 136: push((pop() & 1) != 0 ? 35 : 0); return;
                default: push(ppem);
            }
        }

        private void read(int code) {
            int i = pop();
            boolean fits = code == 67 ? memory.hasStorage(i) : memory.hasCvt(i);
            if (!fits) {
                failure = NO_ENTRY;
                return;
            }
            push(code == 67 ? memory.storage[i] : memory.cvt[i]);
        }

        private void write(int code) {
            int v = pop();
            int i = pop();
            boolean fits = code == 66 ? memory.hasStorage(i) : memory.hasCvt(i);
            if (!fits) {
                failure = NO_ENTRY;
                return;
            }
            if (code == 66) {
                memory.storage[i] = v;
            } else {
                memory.cvt[i] = code == 68 ? v : (int) scaled(v);
            }
        }

        private void comparingCodes(int code) {
            int b = pop();
            int a = TAKES[code] == 2 ? pop() : 0;
            boolean c;
            switch (code) {
                case 80: c = a < b; break;
                case 81: c = a <= b; break;
                case 82: c = a > b; break;
                case 83: c = a >= b; break;
                case 84: c = a == b; break;
                case 85: c = a != b; break;
                case 86: c = (settings.rounded(b) & 127) == 64; break;
                case 87: c = (settings.rounded(b) & 127) == 0; break;
                case 90: c = a != 0 && b != 0; break;
                case 91: c = a != 0 || b != 0; break;
                default: c = b == 0; break;
            }
            push(c ? 1 : 0);
        }

        private void reckoningCodes(int code) {
            long b = pop();
            long a = TAKES[code] == 2 ? pop() : 0;
            switch (code) {
                case 96: push(a + b); return;
                case 97: push(a - b); return;
                case 98:
                    if (b == 0) {
                        failure = BY_ZERO;
                        return;
                    }
                    push(a * PX / b);
                    return;
                case 99: push(nearest(a * b, PX)); return;
                case 100: push(b < 0 ? -b : b); return;
                case 101: push(-b); return;
                case 102: push(Math.floorDiv(b, (long) PX) * PX); return;
                case 103: push(-Math.floorDiv(-b, (long) PX) * PX); return;
                case 104: case 105: case 106: case 107: push(settings.rounded(b)); return;
                case 139: push(Math.max(a, b)); return;
                case 140: push(Math.min(a, b)); return;
                default: push(b);
            }
        }

        private void singlePointCodes(int code) {
            switch (code) {
                case 39: alignPoints(); return;
                case 41: untouchPoint(); return;
                case 46: case 47: touchPoint(code); return;
                case 48: fillUntouched(outline.oy, outline.y, TOUCHED_Y); return;
                case 49: fillUntouched(outline.ox, outline.x, TOUCHED_X); return;
                case 70: case 71: tellLong(code); return;
                case 72: setLong(); return;
                case 73: case 74: tellDistance(code); return;
                default: turnRange(code);
            }
        }

        private void untouchPoint() {
            int p = pop();
            Points zone = zone(0);
            if (isThere(zone, p)) {
                zone.touched[p] &= ~touchBits();
            }
        }

        private void alignPoints() {
            int q = pop();
            int p = pop();
            Points first = zone(1);
            Points second = zone(0);
            if (!isThere(first, p) || !isThere(second, q)) {
                return;
            }
            long d = longBetween(second, q, first, p) / 2;
            move(first, p, d);
            move(second, q, -d);
        }

        private void touchPoint(int code) {
            int p = pop();
            Points zone = zone(0);
            if (!isThere(zone, p)) {
                return;
            }
            long was = longByP(zone.x[p], zone.y[p]);
            move(zone, p, code == 47 ? settings.rounded(was) - was : 0);
            settings.rp[0] = p;
            settings.rp[1] = p;
        }

        private void tellLong(int code) {
            int p = pop();
            Points zone = zone(2);
            if (!isThere(zone, p)) {
                return;
            }
            push(code == 70 ? longByP(zone.x[p], zone.y[p]) : longByD(zone.ox[p], zone.oy[p]));
        }

        private void setLong() {
            int v = pop();
            int p = pop();
            Points zone = zone(2);
            if (!isThere(zone, p)) {
                return;
            }
            move(zone, p, v - longByP(zone.x[p], zone.y[p]));
            if (settings.zp[2] == 0) {
                zone.ox[p] = zone.x[p];
                zone.oy[p] = zone.y[p];
            }
        }

        private void tellDistance(int code) {
            int q = pop();
            int p = pop();
            Points first = zone(0);
            Points second = zone(1);
            if (!isThere(first, p) || !isThere(second, q)) {
                return;
            }
            push(code == 73 ? longBetween(first, p, second, q) : originalBetween(first, p, second, q));
        }

        private void turnRange(int code) {
            int b = pop();
            int a = pop();
            if (b < a) {
                return;
            }
            if (a < 0 || b >= outline.count) {
                failure = NO_POINT;
                return;
            }
            for (int i = a; i <= b; i++) {
                outline.on[i] = code == 129 ? 1 : 0;
            }
        }

        private void fillUntouched(int[] original, int[] current, int bit) {
            for (int c = 0; c < outline.contours; c++) {
                int from = outline.firstOf(c);
                int count = outline.ends[c] - from + 1;
                int first = firstTouched(from, count, bit);
                int before = first;
                for (int k = 1; first != NONE && k <= count; k++) {
                    int i = from + (first - from + k) % count;
                    if ((outline.touched[i] & bit) != 0) {
                        fillBetween(original, current, before, i, c);
                        before = i;
                    }
                }
            }
        }

        private int firstTouched(int from, int count, int bit) {
            for (int i = from; i < from + count; i++) {
                if ((outline.touched[i] & bit) != 0) {
                    return i;
                }
            }
            return NONE;
        }

        private void fillBetween(int[] original, int[] current, int before, int behind, int contour) {
            int from = outline.firstOf(contour);
            int last = outline.ends[contour];
            boolean turned = original[behind] < original[before];
            int a = turned ? behind : before;
            int b = turned ? before : behind;
            int i = before == last ? from : before + 1;
            for (int turn = 0; turn < MOST_POINTS && i != behind; turn++) {
                if (original[i] <= original[a]) {
                    current[i] = original[i] + (current[a] - original[a]);
                } else if (original[i] >= original[b]) {
                    current[i] = original[i] + (current[b] - original[b]);
                } else {
                    long part = (long) (original[i] - original[a]) * (current[b] - current[a]);
                    current[i] = current[a] + (int) nearest(part, original[b] - original[a]);
                }
                i = i == last ? from : i + 1;
            }
        }

        private void manyPointCodes(int code) {
            switch (code) {
                case 56: shiftByPixels(); break;
                case 57: interpolate(); break;
                case 60: alignToReference(); break;
                default: turnPoints(); break;
            }
        }

        private void shiftByReference(int code) {
            boolean odd = (code & 1) == 1;
            Points zone = zone(odd ? 0 : 1);
            int reference = settings.rp[odd ? 1 : 2];
            if (!isThere(zone, reference)) {
                return;
            }
            long d = longByP(zone.x[reference] - zone.ox[reference], zone.y[reference] - zone.oy[reference]);
            if (code < 52) {
                shiftPoints(d);
            } else if (code < 54) {
                shiftContour(d, zone == outline ? reference : NONE);
            } else {
                shiftZone(d, zone, reference);
            }
        }

        private void shiftPoints(long d) {
            Points zone = zone(2);
            for (int k = 0; k < settings.loop; k++) {
                int p = pop();
                if (!isThere(zone, p)) {
                    return;
                }
                move(zone, p, d);
            }
            settings.loop = 1;
        }

        private void shiftContour(long d, int but) {
            int c = pop();
            if (settings.zp[2] != 1 || c < 0 || c >= outline.contours) {
                failure = NO_POINT;
                return;
            }
            for (int i = outline.firstOf(c); i <= outline.ends[c]; i++) {
                if (i != but) {
                    move(outline, i, d);
                }
            }
        }

        private void shiftZone(long d, Points referenceZone, int reference) {
            int z = pop();
            if (!isZone(z)) {
                failure = NO_POINT;
                return;
            }
            Points zone = z == 0 ? memory.twilight : outline;
            for (int i = 0; i < zone.count; i++) {
                if (zone != referenceZone || i != reference) {
                    int was = zone.touched[i];
                    move(zone, i, d);
                    zone.touched[i] = was;
                }
            }
        }

        private void shiftByPixels() {
            long d = pop();
            Points zone = zone(2);
            for (int k = 0; k < settings.loop; k++) {
                int p = pop();
                if (!isThere(zone, p)) {
                    return;
                }
                zone.x[p] += (int) nearest(d * settings.fx, ONE);
                zone.y[p] += (int) nearest(d * settings.fy, ONE);
                zone.touched[p] |= touchBits();
            }
            settings.loop = 1;
        }

        private void interpolate() {
            Points first = zone(0);
            Points second = zone(1);
            Points zone = zone(2);
            int r1 = settings.rp[1];
            int r2 = settings.rp[2];
            if (!isThere(first, r1) || !isThere(second, r2)) {
                return;
            }
            long t = originalBetween(second, r2, first, r1);
            long c = longBetween(second, r2, first, r1);
            for (int k = 0; k < settings.loop; k++) {
                int p = pop();
                if (!isThere(zone, p)) {
                    return;
                }
                long o = originalBetween(zone, p, first, r1);
                long wanted = t == 0 ? o : nearest(o * c, t);
                move(zone, p, wanted - longBetween(zone, p, first, r1));
            }
            settings.loop = 1;
        }

        private void alignToReference() {
            Points zone = zone(1);
            Points first = zone(0);
            int reference = settings.rp[0];
            if (!isThere(first, reference)) {
                return;
            }
            for (int k = 0; k < settings.loop; k++) {
                int p = pop();
                if (!isThere(zone, p)) {
                    return;
                }
                move(zone, p, -longBetween(zone, p, first, reference));
            }
            settings.loop = 1;
        }

        private void turnPoints() {
            for (int k = 0; k < settings.loop; k++) {
                int p = pop();
                if (settings.zp[0] != 1 || p < 0 || p >= outline.count) {
                    failure = NO_POINT;
                    return;
                }
                outline.on[p] = 1 - outline.on[p];
            }
            settings.loop = 1;
        }

        private void measuredCodes(int code) {
            if (code < 60) {
                moveFromReference(code);
            } else if (code < 64) {
                moveToCvt(code);
            } else if (code < 224) {
                moveAsOriginal(code);
            } else {
                moveAsCvt(code);
            }
        }

        /** A point of the twilight zone gets its places anew: d along F from x, y. */
        private void plant(Points zone, int p, int x, int y, long d) {
            zone.ox[p] = x + (int) nearest(d * settings.fx, ONE);
            zone.oy[p] = y + (int) nearest(d * settings.fy, ONE);
            zone.x[p] = zone.ox[p];
            zone.y[p] = zone.oy[p];
        }

        private void moveFromReference(int code) {
            int d = pop();
            int p = pop();
            Points zone = zone(1);
            Points from = zone(0);
            int reference = settings.rp[0];
            if (!isThere(zone, p) || !isThere(from, reference)) {
                return;
            }
            if (settings.zp[1] == 0) {
                plant(zone, p, from.ox[reference], from.oy[reference], d);
            }
            move(zone, p, d - longBetween(zone, p, from, reference));
            noteReferences(p, code == 59);
        }

        private void noteReferences(int p, boolean alsoFirst) {
            settings.rp[1] = settings.rp[0];
            settings.rp[2] = p;
            if (alsoFirst) {
                settings.rp[0] = p;
            }
        }

        private void moveToCvt(int code) {
            int n = pop();
            int p = pop();
            Points zone = zone(0);
            if (!isThere(zone, p)) {
                return;
            }
            if (!memory.hasCvt(n)) {
                failure = NO_ENTRY;
                return;
            }
            long d = memory.cvt[n];
            if (settings.zp[0] == 0) {
                plant(zone, p, 0, 0, d);
            }
            long was = longByP(zone.x[p], zone.y[p]);
            if (code == 63) {
                d = settings.rounded(Math.abs(d - was) > memory.kept[CUT] ? was : d);
            }
            move(zone, p, d - was);
            settings.rp[0] = p;
            settings.rp[1] = p;
        }

        private long orSingle(long v) {
            long single = Math.abs((long) memory.kept[SINGLE]);
            if (Math.abs(Math.abs(v) - single) < memory.kept[SINGLE_CUT]) {
                return v < 0 ? -single : single;
            }
            return v;
        }

        private long atLeast(long e, long d) {
            long least = memory.kept[LEAST];
            return d >= 0 ? Math.max(e, least) : Math.min(e, -least);
        }

        private void moveAsOriginal(int code) {
            int p = pop();
            Points zone = zone(1);
            Points from = zone(0);
            int reference = settings.rp[0];
            if (!isThere(zone, p) || !isThere(from, reference)) {
                return;
            }
            long d = orSingle(originalBetween(zone, p, from, reference));
            long e = (code & 4) != 0 ? settings.rounded(d) : d;
            if ((code & 8) != 0) {
                e = atLeast(e, d);
            }
            move(zone, p, e - longBetween(zone, p, from, reference));
            noteReferences(p, (code & 16) != 0);
        }

        private void moveAsCvt(int code) {
            int n = pop();
            int p = pop();
            Points zone = zone(1);
            Points from = zone(0);
            int reference = settings.rp[0];
            if (!isThere(zone, p) || !isThere(from, reference)) {
                return;
            }
            if (!memory.hasCvt(n)) {
                failure = NO_ENTRY;
                return;
            }
            long e = orSingle(memory.cvt[n]);
            if (settings.zp[1] == 0) {
                plant(zone, p, from.ox[reference], from.oy[reference], e);
            }
            long d = originalBetween(zone, p, from, reference);
            if (memory.kept[FLIP] != 0 && (d < 0) != (e < 0)) {
                e = -e;
            }
            if ((code & 4) != 0) {
                boolean isFar = settings.zp[0] == settings.zp[1] && Math.abs(e - d) > memory.kept[CUT];
                e = settings.rounded(isFar ? d : e);
            }
            if ((code & 8) != 0) {
                e = atLeast(e, d);
            }
            move(zone, p, e - longBetween(zone, p, from, reference));
            noteReferences(p, (code & 16) != 0);
        }

        private void deltaCodes(int code) {
            int n = pop();
            if (n < 0) {
                failure = BAD_NUMBER;
                return;
            }
            if (2L * n > height) {
                failure = TOO_FEW;
                return;
            }
            long from = memory.kept[BASE];
            if (code == 113 || code == 116) {
                from += 16;
            } else if (code == 114 || code == 117) {
                from += 32;
            }
            for (int k = 0; k < n && failure == 0; k++) {
                int which = pop();
                int v = pop();
                if (ppem == from + (v >> 4 & 15)) {
                    int units = (v & 15) < 8 ? (v & 15) - 8 : (v & 15) - 7;
                    applyDelta(code < 115, which, units * (64 >> memory.kept[SHIFT]));
                }
            }
        }

        private void applyDelta(boolean toPoint, int which, int m) {
            if (toPoint) {
                if (isThere(zone(0), which)) {
                    move(zone(0), which, m);
                }
            } else if (memory.hasCvt(which)) {
                memory.cvt[which] += m;
            } else {
                failure = NO_ENTRY;
            }
        }
    }

    /** Sets sizes and makes glyphs. */
    private static final class Maker {
        private final Font font;
        private final GlyphReader reader;
        final Machine machine;
        final Memory sized = new Memory();
        private final Memory working = new Memory();
        final Points[] levels = new Points[MOST_LEVELS];
        final Shape shape = new Shape();
        int ppem;
        boolean made;
        private boolean ranOwnProgram;
        int advance;
        int failedCount;
        private int partsBegun;

        Maker(Font font, GlyphReader reader) {
            this.font = font;
            this.reader = reader;
            machine = new Machine(font, sized);
            for (int k = 0; k < MOST_LEVELS; k++) {
                levels[k] = new Points(MOST_POINTS, 2);
            }
        }

        void forgetAll() {
            ppem = 0;
            made = false;
            machine.peak = 0;
        }

        int keptOf(int which) {
            if (ppem == 0) {
                return 0;
            }
            return made && ranOwnProgram ? working.kept[which] : sized.kept[which];
        }

        int setSize(int wanted) {
            made = false;
            ppem = 0;
            sized.renew(font, wanted);
            machine.beginSize(wanted);
            machine.runForSize(font.begins[FPGM], font.lengths[FPGM], sized);
            if (machine.failure == 0) {
                machine.runForSize(font.begins[PREP], font.lengths[PREP], sized);
            }
            if (machine.failure != 0) {
                failedCount++;
                return FAILED - machine.failure;
            }
            ppem = wanted;
            return machine.steps;
        }

        int makeGlyph(int g) {
            made = false;
            partsBegun = 0;
            machine.beginCount();
            Points outline = levels[0];
            if (build(g, 0)) {
                ranOwnProgram = font.facts[PROGRAM_BYTES][g] > 0;
                advance = outline.phantomX[1] - outline.phantomX[0];
                outline.shift(0, -outline.phantomX[0], 0);
                if (!outline.liesWithin(FAR_AT_LAST)) {
                    machine.failOutside(TOO_FAR);
                }
            }
            if (machine.failure != 0) {
                failedCount++;
                return FAILED - machine.failure;
            }
            made = true;
            shape.trace(outline);
            return outline.count;
        }

        private boolean build(int g, int level) {
            if (level >= MOST_LEVELS || !font.hasGlyph(g)) {
                machine.failOutside(TOO_BIG);
                return false;
            }
            Points outline = levels[level];
            beginOutline(g, outline);
            if (font.facts[PARTS][g] > 0) {
                if (!addParts(g, level)) {
                    return false;
                }
            } else if (font.facts[BYTES][g] > 0) {
                takeOutline(g, outline);
            }
            if (!outline.liesWithin(FAR_AHEAD)) {
                machine.failOutside(TOO_FAR);
                return false;
            }
            int count = font.facts[PROGRAM_BYTES][g];
            if (count > 0) {
                working.copyFrom(sized);
                outline.beginProgram();
                machine.run(font.facts[PROGRAM_BEGIN][g], count, working, outline);
                outline.endProgram();
            }
            return machine.failure == 0;
        }

        private void beginOutline(int g, Points outline) {
            outline.count = 0;
            outline.contours = 0;
            int first = font.facts[LEFT][g] - font.bearingOf(g);
            outline.phantomX[0] = (int) machine.scaled(first);
            outline.phantomX[1] = (int) machine.scaled(first + font.advanceOf(g));
            outline.phantomY[0] = 0;
            outline.phantomY[1] = 0;
        }

        private void takeOutline(int g, Points outline) {
            reader.readOutline(g, outline);
            for (int i = 0; i < outline.count; i++) {
                outline.x[i] = (int) machine.scaled(outline.x[i]);
                outline.y[i] = (int) machine.scaled(outline.y[i]);
            }
        }

        private boolean addParts(int g, int level) {
            for (int k = 0; k < font.facts[PARTS][g]; k++) {
                partsBegun++;
                if (partsBegun > MOST_PARTS_MADE) {
                    machine.failOutside(TOO_BIG);
                    return false;
                }
                reader.readPart(g, k);
                if (!build(reader.partGlyph, level + 1)) {
                    return false;
                }
                // Read again, since the part may have had parts of its own.
                reader.readPart(g, k);
                if (!addPart(level)) {
                    return false;
                }
            }
            return true;
        }

        private boolean addPart(int level) {
            if (level + 1 >= MOST_LEVELS) {
                return false;
            }
            Points whole = levels[level];
            Points part = levels[level + 1];
            int before = whole.count;
            if (before + part.count > MOST_POINTS || whole.contours + part.contours > MOST_CONTOURS) {
                machine.failOutside(TOO_BIG);
                return false;
            }
            append(whole, part);
            if ((reader.partFlags & 2) != 0) {
                whole.shift(before, offset(reader.firstNumber), offset(reader.secondNumber));
            } else if (!match(whole, before)) {
                machine.failOutside(NO_POINT);
                return false;
            }
            if ((reader.partFlags & 512) != 0) {
                System.arraycopy(part.phantomX, 0, whole.phantomX, 0, 2);
                System.arraycopy(part.phantomY, 0, whole.phantomY, 0, 2);
            }
            return true;
        }

        private void append(Points whole, Points part) {
            int before = whole.count;
            for (int i = 0; i < part.count; i++) {
                long x = part.x[i];
                long y = part.y[i];
                whole.x[before + i] = (int) nearest(x * reader.a + y * reader.c, ONE);
                whole.y[before + i] = (int) nearest(x * reader.b + y * reader.d, ONE);
                whole.on[before + i] = part.on[i];
            }
            for (int k = 0; k < part.contours; k++) {
                whole.ends[whole.contours + k] = before + part.ends[k];
            }
            whole.count = before + part.count;
            whole.contours += part.contours;
        }

        private int offset(int number) {
            long v = machine.scaled(number);
            return (int) ((reader.partFlags & 4) != 0 ? toWholePixel(v) : v);
        }

        private boolean match(Points whole, int before) {
            int to = reader.firstNumber;
            int from = before + reader.secondNumber;
            if (to >= before || from >= whole.count) {
                return false;
            }
            whole.shift(before, whole.x[to] - whole.x[from], whole.y[to] - whole.y[from]);
            return true;
        }
    }

    /** The lines and curves of what is made, all places doubled so that middles are whole. */
    private static final class Shape {
        private final int[] ax = new int[MOST_POINTS];
        private final int[] ay = new int[MOST_POINTS];
        private final int[] bx = new int[MOST_POINTS];
        private final int[] by = new int[MOST_POINTS];
        private final int[] cx = new int[MOST_POINTS];
        private final int[] cy = new int[MOST_POINTS];
        private final boolean[] curved = new boolean[MOST_POINTS];
        private int pieces;
        private final int[] chosen = new int[MOST_POINTS];
        private int chosenCount;
        private int winding;
        private int left;
        private int right;

        void trace(Points outline) {
            pieces = 0;
            for (int c = 0; c < outline.contours; c++) {
                traceContour(outline, outline.firstOf(c), outline.ends[c]);
            }
            left = 2 * FAR_AT_LAST + 1;
            right = -left;
            for (int i = 0; i < outline.count; i++) {
                left = Math.min(left, 2 * outline.x[i]);
                right = Math.max(right, 2 * outline.x[i]);
            }
        }

        private void traceContour(Points outline, int from, int to) {
            for (int i = from; i <= to; i++) {
                int before = i == from ? to : i - 1;
                int behind = i == to ? from : i + 1;
                if (from == to || outline.on[i] == 1 && outline.on[behind] == 1) {
                    addLine(outline, i, behind);
                } else if (outline.on[i] == 0) {
                    addCurve(outline, before, i, behind);
                }
            }
        }

        private void addLine(Points outline, int i, int j) {
            if (pieces >= MOST_POINTS) {
                return;
            }
            ax[pieces] = 2 * outline.x[i];
            ay[pieces] = 2 * outline.y[i];
            bx[pieces] = 2 * outline.x[i];
            by[pieces] = 2 * outline.y[i];
            cx[pieces] = 2 * outline.x[j];
            cy[pieces] = 2 * outline.y[j];
            curved[pieces] = false;
            pieces++;
        }

        private void addCurve(Points outline, int before, int i, int behind) {
            if (pieces >= MOST_POINTS) {
                return;
            }
            int from = outline.on[before] == 1 ? before : i;
            int to = outline.on[behind] == 1 ? behind : i;
            ax[pieces] = outline.x[before] + outline.x[from];
            ay[pieces] = outline.y[before] + outline.y[from];
            bx[pieces] = 2 * outline.x[i];
            by[pieces] = 2 * outline.y[i];
            cx[pieces] = outline.x[behind] + outline.x[to];
            cy[pieces] = outline.y[behind] + outline.y[to];
            curved[pieces] = true;
            pieces++;
        }

        boolean spans(int x) {
            return left <= x && x <= right;
        }

        /** Only the pieces that reach a row's height count for its places. */
        void chooseRow(int y) {
            chosenCount = 0;
            for (int k = 0; k < pieces; k++) {
                int low = Math.min(ay[k], Math.min(by[k], cy[k]));
                int high = Math.max(ay[k], Math.max(by[k], cy[k]));
                if (low <= y && y <= high) {
                    chosen[chosenCount] = k;
                    chosenCount++;
                }
            }
        }

        boolean hasRow() {
            return chosenCount > 0;
        }

        /** Whether a place of the row that was chosen last is in. */
        boolean holds(int x, int y) {
            winding = 0;
            for (int k = 0; k < chosenCount; k++) {
                int piece = chosen[k];
                boolean isLeft = ax[piece] < x && bx[piece] < x && cx[piece] < x;
                if (!isLeft && meets(piece, x, y)) {
                    return true;
                }
            }
            return winding != 0;
        }

        /**
         * Whether the piece goes through the place; if not, what it adds to the winding is added.
         * A curve adds what its chord adds, and once more if the place lies between curve and chord:
         * with the shares u, v, w of the triangle's corners the curve is where v v = 4 u w.
         */
        private boolean meets(int piece, int x, int y) {
            long x0 = ax[piece] - x;
            long y0 = ay[piece] - y;
            long x2 = cx[piece] - x;
            long y2 = cy[piece] - y;
            winding += crossing(x0, y0, x2, y2);
            if (!curved[piece]) {
                return x0 * y2 == x2 * y0 && reaches(x0, x0, x2) && reaches(y0, y0, y2);
            }
            long x1 = bx[piece] - x;
            long y1 = by[piece] - y;
            long u = x1 * y2 - x2 * y1;
            long v = x2 * y0 - x0 * y2;
            long w = x0 * y1 - x1 * y0;
            long area = u + v + w;
            if (area == 0) {
                return u == 0 && v == 0 && w == 0 && reaches(x0, x1, x2) && reaches(y0, y1, y2);
            }
            int sign = area < 0 ? -1 : 1;
            if (u * sign < 0 || v * sign < 0 || w * sign < 0) {
                return false;
            }
            long room = 4 * u * w - v * v;
            if (room > 0 && (v != 0 || sign * sideOf(x2, y2, x0, y0) > 0)) {
                winding += sign;
            }
            return room == 0;
        }

        /** Whether (1 - t)(1 - t) a + 2 t (1 - t) b + t t c is 0 for some t from 0 to 1. */
        private static boolean reaches(long a, long b, long c) {
            if (a > 0 && c > 0) {
                return b < 0 && b * b >= a * c;
            }
            if (a < 0 && c < 0) {
                return b > 0 && b * b >= a * c;
            }
            return true;
        }

        /**
         * On which side of a line the place lies. A place on it (a chord is no part of the outline)
         * is taken a little higher, and still less to the right, here and in crossing.
         */
        private static int sideOf(long x0, long y0, long x1, long y1) {
            long side = x0 * y1 - x1 * y0;
            if (side == 0) {
                side = x1 != x0 ? x1 - x0 : y0 - y1;
            }
            return side > 0 ? 1 : side < 0 ? -1 : 0;
        }

        private static int crossing(long x0, long y0, long x1, long y1) {
            if (y0 <= 0 && y1 > 0) {
                return sideOf(x0, y0, x1, y1) > 0 ? 1 : 0;
            }
            if (y1 <= 0 && y0 > 0) {
                return sideOf(x0, y0, x1, y1) < 0 ? -1 : 0;
            }
            return 0;
        }
    }

    /** The pixels. */
    private static final class Canvas {
        static final int MOST = 128;
        final byte[] pixels = new byte[MOST * MOST];
        int width;
        int height;

        void renew(int width, int height) {
            this.width = width;
            this.height = height;
            Arrays.fill(pixels, (byte) 0);
        }

        int fillIn(Shape shape, int x, int y) {
            int fresh = 0;
            for (int j = 0; j < height; j++) {
                int placeY = 2 * (PX * j + PX / 2 - y);
                shape.chooseRow(placeY);
                for (int i = 0; i < width && shape.hasRow(); i++) {
                    int placeX = 2 * (PX * i + PX / 2 - x);
                    int at = j * MOST + i;
                    if (pixels[at] == 0 && shape.spans(placeX) && shape.holds(placeX, placeY)) {
                        pixels[at] = 1;
                        fresh++;
                    }
                }
            }
            return fresh;
        }
    }
}

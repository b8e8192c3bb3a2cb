/**
 * "Calls answer -1 for an unknown thing, -2 outside of a range, -3 not so far, -4 no room; of those that a call
 * tells, in the order in which it tells them, the first that fits; then nothing changes": every call in every state.
 */
public final class EdgesCallsTest {
    private static final int LEAST = Integer.MIN_VALUE;
    private static final int MOST = Integer.MAX_VALUE;

    // What a house has: each state is a sum of these.
    private static final int LOADED = 1;
    private static final int SIZED = 2;
    private static final int MADE = 4;
    private static final int CANVAS = 8;
    private static final int[] STATES = {0, LOADED, LOADED + SIZED, LOADED + SIZED + MADE,
        CANVAS, CANVAS + LOADED, CANVAS + LOADED + SIZED, CANVAS + LOADED + SIZED + MADE};

    public static void main(String[] args) {
        feeds();
        feedsOfAllLengths();
        fonts();
        tables();
        glyphsOfCodes();
        glyphs();
        kerns();
        sizes();
        makes();
        points();
        phantomsAreOthers();
        tells();
        holds();
        places();
        canvases();
        draws();
        pixels();
        types();
        fullOfCodes();
        lines();
        failuresTakeAway();
        loadsTakeAway();
        numbersThatLookRefused();
        Check.done();
    }

    private static int[] p(int... values) {
        return values;
    }

    private static FontKit kit() {
        FontKit kit = new FontKit().addEmpty().addSquare(p(7), 133);
        kit.addSquare(33);
        kit.kern = FontKit.kerns(1, 1, -3);
        kit.cvt = FontKit.words(64, 65);
        kit.prep = FontKit.prog(p(5), 133, p(1, 8), 66, p(0), 22, p(1, 9), 72);
        return kit;
    }

    /** A house in a state, with two CODES and some bytes behind what was loaded. */
    private static HintHouse house(int state) {
        HintHouse house = new HintHouse();
        if ((state & LOADED) != 0) {
            FontKit.feed(house, kit().font());
            Check.due("load()", house.load(), 3);
            house.wipe();
        }
        house.feed(3, 77);
        if ((state & SIZED) != 0) {
            Check.due("size(10)", house.size(10), 8);
        }
        if ((state & MADE) != 0) {
            Check.due("make(1)", house.make(1), 4);
        }
        if ((state & CANVAS) != 0) {
            house.canvas(5, 4);
        }
        house.type(66);
        house.type(67);
        return house;
    }

    private static boolean has(int state, int what) {
        return (state & what) == what;
    }

    /** All that can be seen of two houses is the same, at last how many CODES and bytes there are. */
    private static void twins(String what, HintHouse one, HintHouse other) {
        for (int k = 0; k < 10; k++) {
            Check.due(what + ", font(" + k + ") then", one.font(k), other.font(k));
            Check.due(what + ", told(" + k + ") then", one.told(k), other.told(k));
            Check.due(what + ", held(" + k % 6 + ", 1) then", one.held(k % 6, 1), other.held(k % 6, 1));
            Check.due(what + ", point(2, " + k % 4 + ") then", one.point(2, k % 4), other.point(2, k % 4));
            Check.due(what + ", pixel(" + k % 5 + ", " + k / 5 + ") then", one.pixel(k % 5, k / 5), other.pixel(k % 5, k / 5));
        }
        Check.due(what + ", pixel(4, 3) then", one.pixel(4, 3), other.pixel(4, 3));
        Check.due(what + ", pixel(5, 3) then", one.pixel(5, 3), other.pixel(5, 3));
        Check.due(what + ", pixel(4, 4) then", one.pixel(4, 4), other.pixel(4, 4));
        Check.due(what + ", isIn(9, 9) then", one.isIn(9, 9), other.isIn(9, 9));
        Check.due(what + ", draw(0, 0) then", one.draw(0, 0), other.draw(0, 0));
        Check.due(what + ", type(65) then", one.type(65), other.type(65));
        Check.due(what + ", line(0, 0) then", one.line(0, 0), other.line(0, 0));
        Check.due(what + ", type(66) then", one.type(66), other.type(66));
        Check.due(what + ", wipe() then", one.wipe(), other.wipe());
    }

    private static String in(String call, int state) {
        return call + " in state " + state;
    }

    /** "-2 n is not 1 .. 8". */
    private static void feeds() {
        for (int state : STATES) {
            for (int n : p(LEAST, -8, -1, 0, 9, 10, 64, MOST)) {
                HintHouse house = house(state);
                Check.due(in("feed(" + n + ", -1)", state), house.feed(n, -1), -2);
                twins(in("feed(" + n + ", -1)", state), house, house(state));
            }
            for (int n = 1; n <= 8; n++) {
                Check.due(in("feed(" + n + ", -1)", state), house(state).feed(n, -1), 3 + n);
            }
        }
    }

    /** "The n lowest bytes of a long, the highest of these first": what stands above them counts for nothing. */
    private static void feedsOfAllLengths() {
        byte[] font = kit().font();
        for (int n = 1; n <= 8; n++) {
            for (long above : new long[] {0, -1, 0x5a5a5a5a5a5a5a5aL}) {
                HintHouse house = new HintHouse();
                for (int at = 0; at < font.length; at += n) {
                    int count = Math.min(n, font.length - at);
                    long bytes = above;
                    for (int i = 0; i < count; i++) {
                        bytes = bytes << 8 | font[at + i] & 255;
                    }
                    Check.due("feed(" + count + ", ..)", house.feed(count, bytes), at + count);
                }
                Check.due("load() of bytes fed by " + n + ", above them " + above, house.load(), 3);
                Check.due("font(9) of bytes fed by " + n, house.font(9), font.length);
            }
        }
    }

    /** "0 UNITS ... 9 how many bytes. -3; -2." */
    private static void fonts() {
        for (int state : STATES) {
            for (int what : p(LEAST, -1, 10, MOST)) {
                HintHouse house = house(state);
                Check.due(in("font(" + what + ")", state), house.font(what), has(state, LOADED) ? -2 : -3);
                twins(in("font(" + what + ")", state), house, house(state));
            }
            Check.due(in("font(0)", state), house(state).font(0), has(state, LOADED) ? 640 : -3);
            Check.due(in("font(9)", state), house(state).font(9), has(state, LOADED) ? kit().font().length : -3);
        }
    }

    /** "-3; -1; -2." */
    private static void tables() {
        // The font has ten tables: 0 .. 9.
        int[][] due = {{-1, 0, -1}, {10, 0, -1}, {LEAST, 0, -1}, {MOST, 0, -1}, {0, -1, -2}, {0, 4, -2}, {9, LEAST, -2}, {9, MOST, -2},
            {-1, -1, -1}, {10, 4, -1}};
        for (int state : STATES) {
            for (int[] row : due) {
                String call = in("table(" + row[0] + ", " + row[1] + ")", state);
                HintHouse house = house(state);
                Check.due(call, house.table(row[0], row[1]), has(state, LOADED) ? row[2] : -3);
                twins(call, house, house(state));
            }
            Check.due(in("table(0, 0)", state), house(state).table(0, 0), has(state, LOADED) ? 0x636d6170L : -3);
            Check.due(in("table(9, 0)", state), house(state).table(9, 0), has(state, LOADED) ? 0x70726570L : -3);
            Check.due(in("table(9, 3)", state), house(state).table(9, 3), has(state, LOADED) ? kit().prep.length : -3);
        }
    }

    /** "a code (0 .. 1114111). -3; -2." */
    private static void glyphsOfCodes() {
        int[][] due = {{LEAST, -2}, {-1, -2}, {0, 0}, {65, 0}, {66, 1}, {67, 2}, {68, 0}, {1114111, 0}, {1114112, -2}, {MOST, -2}};
        for (int state : STATES) {
            for (int[] pair : due) {
                HintHouse house = house(state);
                Check.due(in("glyphOf(" + pair[0] + ")", state), house.glyphOf(pair[0]), has(state, LOADED) ? pair[1] : -3);
                twins(in("glyphOf(" + pair[0] + ")", state), house, house(state));
            }
        }
    }

    /** "-3; -1; -2." */
    private static void glyphs() {
        int[][] due = {{-1, 0, -1}, {3, 0, -1}, {LEAST, 0, -1}, {MOST, 0, -1}, {0, -1, -2}, {0, 8, -2}, {2, LEAST, -2}, {2, MOST, -2},
            {-1, -1, -1}, {3, 8, -1}, {0, 0, 200}, {2, 7, 1}};
        for (int state : STATES) {
            for (int[] row : due) {
                String call = in("glyph(" + row[0] + ", " + row[1] + ")", state);
                HintHouse house = house(state);
                Check.due(call, house.glyph(row[0], row[1]), has(state, LOADED) ? row[2] : -3);
                twins(call, house, house(state));
            }
        }
    }

    /** "The KERN of two glyphs, 0 without one. -3; -1." */
    private static void kerns() {
        int[][] due = {{-1, 0, -1}, {0, -1, -1}, {3, 0, -1}, {0, 3, -1}, {LEAST, 0, -1}, {0, MOST, -1}, {0, 0, 0}, {2, 2, 0}, {1, 1, -3}, {1, 2, 0}, {2, 1, 0}};
        for (int state : STATES) {
            for (int[] row : due) {
                String call = in("kern(" + row[0] + ", " + row[1] + ")", state);
                HintHouse house = house(state);
                Check.due(call, house.kern(row[0], row[1]), has(state, LOADED) ? row[2] : -3);
                twins(call, house, house(state));
            }
        }
    }

    /** "-3; -2 PPEM": 4 .. 48. */
    private static void sizes() {
        for (int state : STATES) {
            for (int ppem : p(LEAST, -1, 0, 3, 49, MOST)) {
                HintHouse house = house(state);
                Check.due(in("size(" + ppem + ")", state), house.size(ppem), has(state, LOADED) ? -2 : -3);
                twins(in("size(" + ppem + ")", state), house, house(state));
            }
            for (int ppem : p(4, 48)) {
                HintHouse house = house(state);
                Check.due(in("size(" + ppem + ")", state), house.size(ppem), has(state, LOADED) ? 8 : -3);
                Check.due(in("told(6)", state), house.told(6), has(state, LOADED) ? ppem : 0);
                Check.due(in("nothing is MADE behind size(" + ppem + ")", state), house.isIn(0, 0), -3);
            }
        }
    }

    /** "-3; -1." */
    private static void makes() {
        for (int state : STATES) {
            for (int g : p(LEAST, -1, 3, MOST)) {
                HintHouse house = house(state);
                Check.due(in("make(" + g + ")", state), house.make(g), has(state, SIZED) ? -1 : -3);
                twins(in("make(" + g + ")", state), house, house(state));
            }
            Check.due(in("make(0)", state), house(state).make(0), has(state, SIZED) ? 0 : -3);
            Check.due(in("make(2)", state), house(state).make(2), has(state, SIZED) ? -101 : -3);
        }
    }

    /** "Point i of what is MADE: 0 x, 1 y, 2 ON, 3 its contour. 0 for others": its PHANTOMS are others. */
    private static void points() {
        int[][] others = {{-1, 0}, {4, 0}, {4, 2}, {5, 0}, {5, 3}, {LEAST, 0}, {MOST, 0}, {2, -1}, {2, 4}, {2, LEAST}, {2, MOST}};
        for (int state : STATES) {
            for (int[] row : others) {
                Check.due(in("point(" + row[0] + ", " + row[1] + ")", state), house(state).point(row[0], row[1]), 0);
            }
            int[] due = {320, 320, 1, 0};
            for (int what = 0; what < 4; what++) {
                Check.due(in("point(2, " + what + ")", state), house(state).point(2, what), has(state, MADE) ? due[what] : 0);
            }
        }
    }

    /** The PHANTOMS are behind the points, but not among them. */
    private static void phantomsAreOthers() {
        FontKit kit = new FontKit().add(500, -100, FontKit.simple(7, FontKit.prog(0, p(4, 9), 56, p(5, 8), 56), FontKit.square(0, 0, 64)));
        HintHouse house = kit.sized(10);
        Check.due("make(0)", house.make(0), 4);
        for (int i = 4; i < 8; i++) {
            for (int what = 0; what < 4; what++) {
                Check.due("point(" + i + ", " + what + ") behind the last", house.point(i, what), 0);
            }
        }
    }

    /** "4 ADVANCE of what is MADE (0), 5 its contours, 6 PPEM (0), 7 SCAN ... 0 for others." */
    private static void tells() {
        for (int state : STATES) {
            boolean made = has(state, MADE);
            boolean sized = has(state, SIZED);
            int[] due = {made ? 2 : sized ? 8 : 0, 0, 0, -1, made ? 384 : 0, made ? 1 : 0, sized ? 10 : 0, made ? 7 : sized ? 5 : 0, 0, sized ? 2 : 0};
            for (int what = 0; what < 10; what++) {
                Check.due(in("told(" + what + ")", state), house(state).told(what), due[what]);
            }
            for (int what : p(LEAST, -1, 10, MOST)) {
                Check.due(in("told(" + what + ")", state), house(state).told(what), 0);
            }
        }
    }

    /** "CVT (kind 0), STORAGE (1) i as the SIZE left it; TWILIGHT point i: ... 0 for others." */
    private static void holds() {
        int[][] due = {{0, 0, 64}, {0, 1, 65}, {1, 1, 8}, {2, 1, 9}, {3, 1, 0}, {4, 1, 9}, {5, 1, 0}};
        int[] counts = {2, 16, 4, 4, 4, 4};
        for (int state : STATES) {
            for (int[] row : due) {
                Check.due(in("held(" + row[0] + ", " + row[1] + ")", state), house(state).held(row[0], row[1]), has(state, SIZED) ? row[2] : 0);
            }
            for (int kind = 0; kind < 6; kind++) {
                for (int i : p(LEAST, -1, counts[kind], counts[kind] + 1, 63, 64, 65, 255, 256, 257, MOST)) {
                    Check.due(in("held(" + kind + ", " + i + ")", state), house(state).held(kind, i), 0);
                }
            }
            for (int kind : p(LEAST, -1, 6, MOST)) {
                Check.due(in("held(" + kind + ", 1)", state), house(state).held(kind, 1), 0);
            }
        }
        lastOfEach();
    }

    /** The last ones of as many as there can be. */
    private static void lastOfEach() {
        FontKit kit = new FontKit().addEmpty();
        kit.storage = 64;
        kit.twilight = 64;
        kit.cvt = new byte[512];
        kit.cvt[511] = 3;
        kit.prep = FontKit.prog(p(63, 5), 66, p(0), 22, p(63, 6), 72, 0, p(63, 7), 72);
        HintHouse house = kit.sized(10);
        int[][] due = {{0, 255, 3}, {0, 254, 0}, {0, 256, 0}, {1, 63, 5}, {1, 62, 0}, {1, 64, 0}, {2, 63, 6}, {3, 63, 7}, {4, 63, 6}, {5, 63, 7},
            {2, 62, 0}, {2, 64, 0}, {3, 64, 0}, {4, 64, 0}, {5, 64, 0}};
        for (int[] row : due) {
            Check.due("held(" + row[0] + ", " + row[1] + ") of the most", house.held(row[0], row[1]), row[2]);
        }
    }

    /** "-3; -2 x or y is not -5000 .. 5000." */
    private static void places() {
        int[][] due = {{-5001, 0, -2}, {5001, 0, -2}, {0, -5001, -2}, {0, 5001, -2}, {LEAST, 0, -2}, {0, MOST, -2}, {-5000, 0, 0}, {5000, 0, 0},
            {0, -5000, 0}, {0, 5000, 0}, {320, 320, 1}, {321, 320, 0}};
        for (int state : STATES) {
            for (int[] row : due) {
                String call = in("isIn(" + row[0] + ", " + row[1] + ")", state);
                HintHouse house = house(state);
                Check.due(call, house.isIn(row[0], row[1]), has(state, MADE) ? row[2] : -3);
                twins(call, house, house(state));
            }
        }
    }

    /** "A new CANVAS: 1. -2." */
    private static void canvases() {
        int[][] wrong = {{0, 1}, {1, 0}, {129, 1}, {1, 129}, {-1, 1}, {1, -1}, {LEAST, LEAST}, {MOST, MOST}, {0, 0}};
        for (int state : STATES) {
            for (int[] row : wrong) {
                String call = in("canvas(" + row[0] + ", " + row[1] + ")", state);
                HintHouse house = house(state);
                Check.due(call, house.canvas(row[0], row[1]), -2);
                twins(call, house, house(state));
            }
            Check.due(in("canvas(1, 128)", state), house(state).canvas(1, 128), 1);
            Check.due(in("canvas(128, 1)", state), house(state).canvas(128, 1), 1);
        }
    }

    /** "-3 (also without a CANVAS); -2 x or y is not -20000 .. 20000." */
    private static void draws() {
        int[][] due = {{-20001, 0, -2}, {20001, 0, -2}, {0, -20001, -2}, {0, 20001, -2}, {LEAST, 0, -2}, {0, MOST, -2}, {-20000, 0, 0}, {20000, 0, 0},
            {0, -20000, 0}, {0, 20000, 0}};
        for (int state : STATES) {
            boolean can = has(state, MADE + CANVAS);
            for (int[] row : due) {
                String call = in("draw(" + row[0] + ", " + row[1] + ")", state);
                HintHouse house = house(state);
                Check.due(call, house.draw(row[0], row[1]), can ? row[2] : -3);
                twins(call, house, house(state));
            }
            Check.due(in("draw(0, 0)", state), house(state).draw(0, 0), can ? 20 : -3);
        }
    }

    /** "A PIXEL. -1." */
    private static void pixels() {
        int[][] due = {{-1, 0, -1}, {0, -1, -1}, {5, 0, -1}, {0, 4, -1}, {LEAST, 0, -1}, {0, MOST, -1}, {4, 3, 0}, {0, 0, 0}};
        for (int state : STATES) {
            for (int[] row : due) {
                String call = in("pixel(" + row[0] + ", " + row[1] + ")", state);
                HintHouse house = house(state);
                Check.due(call, house.pixel(row[0], row[1]), has(state, CANVAS) ? row[2] : -1);
                twins(call, house, house(state));
            }
        }
    }

    /** "A code (0 .. 1114111) comes behind the CODES: how many. -2". */
    private static void types() {
        for (int state : STATES) {
            for (int code : p(LEAST, -1, 1114112, MOST)) {
                HintHouse house = house(state);
                Check.due(in("type(" + code + ")", state), house.type(code), -2);
                twins(in("type(" + code + ")", state), house, house(state));
            }
            for (int code : p(0, 1114111)) {
                Check.due(in("type(" + code + ")", state), house(state).type(code), 3);
            }
        }
    }

    /** "-2; -4 there are 100": the 101st does not come behind them. */
    private static void fullOfCodes() {
        HintHouse house = house(LOADED + SIZED + CANVAS);
        Check.due("line(0, 0) of BC", house.line(0, 0), -1000101);
        for (int k = 1; k <= 100; k++) {
            Check.due("type(65), number " + k, house.type(65), k);
        }
        for (int k = 0; k < 3; k++) {
            Check.due("type(65), the 101st", house.type(65), -4);
            Check.due("type(-1) when there are 100", house.type(-1), -2);
            Check.due("type(1114112) when there are 100", house.type(1114112), -2);
        }
        // Each is 200 wide.
        Check.due("line(-10000, 0) of 100", house.line(-10000, 0), 10000);
        Check.due("type(65) behind it", house.type(65), 1);
    }

    /** "-3 (also without a CANVAS; the CODES stay); -2 x or y is not -20000 .. 20000 (likewise)." */
    private static void lines() {
        int[][] wrong = {{-20001, 0}, {20001, 0}, {0, -20001}, {0, 20001}, {LEAST, 0}, {0, MOST}};
        for (int state : STATES) {
            boolean can = has(state, SIZED + CANVAS);
            for (int[] row : wrong) {
                String call = in("line(" + row[0] + ", " + row[1] + ")", state);
                HintHouse house = house(state);
                Check.due(call, house.line(row[0], row[1]), can ? -2 : -3);
                twins(call, house, house(state));
            }
            if (!can) {
                HintHouse house = house(state);
                Check.due(in("line(0, 0)", state), house.line(0, 0), -3);
                twins(in("line(0, 0)", state), house, house(state));
            }
        }
        HintHouse house = house(LOADED + SIZED + CANVAS);
        house.line(0, 0);
        for (int x : p(-20000, 20000)) {
            Check.due("line(" + x + ", 0)", house.line(x, 0), x);
            Check.due("line(0, " + x + ")", house.line(0, x), 0);
        }
    }

    /** "-100 less the FAILURE (there is no SIZE then)", "(nothing is MADE then)". */
    private static void failuresTakeAway() {
        HintHouse house = house(LOADED + SIZED + MADE + CANVAS);
        Check.due("make(2)", house.make(2), -101);
        Check.due("told(1)", house.told(1), 1);
        Check.due("point(2, 0) of nothing", house.point(2, 0), 0);
        Check.due("isIn(0, 0) of nothing", house.isIn(0, 0), -3);
        Check.due("draw(0, 0) of nothing", house.draw(0, 0), -3);
        Check.due("told(4) of nothing", house.told(4), 0);
        Check.due("told(5) of nothing", house.told(5), 0);
        Check.due("told(6), the SIZE stays", house.told(6), 10);
        Check.due("told(7), as the SIZE", house.told(7), 5);
        Check.due("held(0, 1), the SIZE stays", house.held(0, 1), 65);
        Check.due("make(1) behind it", house.make(1), 4);
        FontKit kit = kit();
        kit.prep = FontKit.prog(p(1, 8), 66, p(5), 133, 75, p(11), 84, 88, 33, 89);
        house = kit.sized(10);
        house.canvas(5, 4);
        house.make(1);
        house.type(66);
        Check.due("size(11)", house.size(11), -101);
        int[] none = {house.isIn(0, 0), house.draw(0, 0), house.make(1), house.make(-1), house.line(0, 0), house.line(99999, 0)};
        for (int k = 0; k < none.length; k++) {
            Check.due("no SIZE, call " + k, none[k], -3);
        }
        int[] zeros = {house.point(2, 0), house.told(4), house.told(5), house.told(6), house.told(7), house.held(0, 1), house.held(1, 1)};
        for (int k = 0; k < zeros.length; k++) {
            Check.due("no SIZE, number " + k, zeros[k], 0);
        }
        Check.due("font(1), the font stays", house.font(1), 3);
        Check.due("the CODES stay", house.type(66), 2);
        Check.due("the CANVAS stays", house.pixel(4, 3), 0);
    }

    /** "or -100 less the FAULT (then none is LOADED). No SIZE, nothing MADE, then." */
    private static void loadsTakeAway() {
        for (int fault = 0; fault < 2; fault++) {
            HintHouse house = house(LOADED + SIZED + MADE + CANVAS);
            house.draw(0, 0);
            house.wipe();
            byte[] font = kit().font();
            font[font.length - 1] ^= fault;
            FontKit.feed(house, font);
            Check.due("what was LOADED stays till load()", house.isIn(0, 0), 1);
            Check.due("load()", house.load(), fault == 1 ? -104 : 3);
            int[] none = {house.isIn(0, 0), house.draw(0, 0), house.make(1), house.line(0, 0)};
            for (int k = 0; k < none.length; k++) {
                Check.due("behind load(), call " + k, none[k], -3);
            }
            int[] zeros = {house.point(2, 0), house.told(4), house.told(5), house.told(6), house.told(7), house.told(8), house.told(9), house.held(0, 1)};
            for (int k = 0; k < zeros.length; k++) {
                Check.due("behind load(), number " + k, zeros[k], 0);
            }
            Check.due("told(0) is left as it is", house.told(0), 2);
            Check.due("font(1)", house.font(1), fault == 1 ? -3 : 3);
            Check.due("table(0, 0)", house.table(0, 0), fault == 1 ? -3 : 0x636d6170L);
            Check.due("glyphOf(66)", house.glyphOf(66), fault == 1 ? -3 : 1);
            Check.due("glyph(1, 7)", house.glyph(1, 7), fault == 1 ? -3 : kit().house().glyph(1, 7));
            Check.due("kern(1, 1)", house.kern(0, 0), fault == 1 ? -3 : 0);
            Check.due("size(10)", house.size(10), fault == 1 ? -3 : 8);
            Check.due("the CANVAS stays", house.pixel(4, 3), 1);
            Check.due("the CODES stay", house.type(66), 3);
            Check.due("the bytes stay", house.wipe(), font.length);
        }
    }

    /** "(By BEARING and LEFT -1 .. -3 may be numbers.)", "(It may be -1, -3.)" */
    private static void numbersThatLookRefused() {
        FontKit kit = new FontKit();
        for (int k = 1; k <= 4; k++) {
            kit.add(0, -k, FontKit.simple(-k, new byte[0], p(0, 0, 1)));
        }
        kit.kern = FontKit.kerns(0, 0, -1, 1, 1, -2, 2, 2, -3, 3, 3, -4);
        HintHouse house = kit.house();
        for (int k = 1; k <= 4; k++) {
            Check.due("a BEARING of -" + k, house.glyph(k - 1, 1), -k);
            Check.due("a LEFT of -" + k, house.glyph(k - 1, 4), -k);
            Check.due("a KERN of -" + k, house.kern(k - 1, k - 1), -k);
        }
        int[][] far = {{32767, -32768}, {-32768, 32767}};
        for (int[] pair : far) {
            FontKit wide = new FontKit().add(65535, pair[0], FontKit.simple(pair[1], new byte[0], p(0, 0, 1)));
            wide.kern = FontKit.kerns(0, 0, pair[1]);
            HintHouse other = wide.house();
            Check.due("an ADVANCE of 65535", other.glyph(0, 0), 65535);
            Check.due("a BEARING of " + pair[0], other.glyph(0, 1), pair[0]);
            Check.due("a LEFT of " + pair[1], other.glyph(0, 4), pair[1]);
            Check.due("a KERN of " + pair[1], other.kern(0, 0), pair[1]);
        }
    }
}

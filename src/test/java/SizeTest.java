/** Promises 10 and 14: size, held. */
public final class SizeTest {
    public static void main(String[] args) {
        ranges();
        scaling();
        programsInOrder();
        anew();
        seenByGlyphs();
        failing();
        Check.done();
    }

    private static void ranges() {
        HintHouse none = new HintHouse();
        Check.due("size(3) of none", none.size(3), -3);
        HintHouse house = new FontKit().addEmpty().house();
        Check.due("make(0) without a size", house.make(0), -3);
        Check.due("make(7) without a size", house.make(7), -3);
        Check.due("size(3)", house.size(3), -2);
        Check.due("size(49)", house.size(49), -2);
        Check.due("size(-1)", house.size(-1), -2);
        Check.due("told(6) without a size", house.told(6), 0);
        Check.due("size(4)", house.size(4), 0);
        Check.due("told(6)", house.told(6), 4);
        Check.due("size(48)", house.size(48), 0);
        Check.due("told(6) of 48", house.told(6), 48);
        Check.due("size(49) changes nothing", house.size(49), -2);
        Check.due("told(6) still", house.told(6), 48);
        Check.due("make(1), a glyph that there is not", house.make(1), -1);
        Check.due("make(-1)", house.make(-1), -1);
    }

    private static void scaling() {
        FontKit kit = new FontKit().addEmpty();
        kit.units = 1000;
        kit.cvt = FontKit.words(1, -1, 125, -125, 1000, 32767, -32768);
        HintHouse house = kit.sized(4);
        int[] due = {0, 0, 32, -32, 256, 8388, -8389};
        for (int i = 0; i < due.length; i++) {
            Check.due("held(0, " + i + ")", house.held(0, i), due[i]);
        }
        kit.units = 512;
        kit.cvt = FontKit.words(1, -1, 3, -3);
        house = kit.sized(4);
        int[] halves = {1, -1, 2, -2};
        for (int i = 0; i < halves.length; i++) {
            Check.due("held(0, " + i + ") of halves", house.held(0, i), halves[i]);
        }
        Check.due("held(0, 4)", house.held(0, 4), 0);
        Check.due("held(0, -1)", house.held(0, -1), 0);
        Check.due("held(0, int greatest)", house.held(0, Integer.MAX_VALUE), 0);
        Check.due("held(6, 0)", house.held(6, 0), 0);
        Check.due("held(-1, 0)", house.held(-1, 0), 0);
    }

    /** fpgm, then prep, with what fpgm left; a glyph's program does not change what the size left. */
    private static void programsInOrder() {
        FontKit kit = new FontKit().addEmpty();
        kit.cvt = FontKit.words(10, 20);
        kit.fpgm = FontKit.prog(FontKit.push(3, 77), 66, FontKit.push(0, 11), 68, FontKit.push(5), 133,
            FontKit.push(2), 29, FontKit.push(8, 9));
        kit.prep = FontKit.prog(36, FontKit.push(5), 35, 66, FontKit.push(3), 67, FontKit.push(1), 96,
            FontKit.push(4), 35, 66, FontKit.push(1, 30), 68,
            FontKit.push(0), 22, FontKit.push(2, 99), 72, FontKit.push(2), 47, 2, FontKit.push(2, 50), 72);
        kit.addSquare(FontKit.push(3, 1), 66, FontKit.push(0, 1), 68, FontKit.push(0), 22, FontKit.push(2, 7), 72);
        HintHouse house = kit.house();
        Check.due("size(10), steps of both", house.size(10), 9 + 22);
        Check.due("told(0)", house.told(0), 31);
        for (int turn = 0; turn < 2; turn++) {
            Check.due("held(1, 3)", house.held(1, 3), 77);
            Check.due("held(1, 4)", house.held(1, 4), 78);
            Check.due("held(1, 5), the stack begins empty", house.held(1, 5), 0);
            Check.due("held(1, 16)", house.held(1, 16), 0);
            Check.due("held(0, 0)", house.held(0, 0), 11);
            Check.due("held(0, 1)", house.held(0, 1), 30);
            Check.due("held(2, 2)", house.held(2, 2), 178);
            Check.due("held(4, 2)", house.held(4, 2), 178);
            Check.due("held(3, 2)", house.held(3, 2), 0);
            Check.due("held(2, 4)", house.held(2, 4), 0);
            Check.due("told(7)", house.told(7), 5);
            Check.due("make(1)", house.make(1), 4);
        }
    }

    private static void anew() {
        FontKit kit = new FontKit().addEmpty();
        kit.cvt = FontKit.words(64);
        kit.fpgm = FontKit.prog(FontKit.push(0), 44, FontKit.push(1, 2), 66, 45);
        kit.prep = FontKit.prog(75, FontKit.push(10), 84, 88, FontKit.push(0), 43, FontKit.push(2, 9, 0, 7), 66, 66,
            FontKit.push(0), 22, FontKit.push(1, 640), 72, FontKit.push(0, 5), 68, 89);
        HintHouse house = kit.sized(10);
        Check.due("held(1, 0)", house.held(1, 0), 7);
        Check.due("held(1, 1)", house.held(1, 1), 2);
        Check.due("held(1, 2)", house.held(1, 2), 9);
        Check.due("held(2, 1)", house.held(2, 1), 640);
        Check.due("held(0, 0)", house.held(0, 0), 5);
        house.size(20);
        Check.due("held(1, 0) anew", house.held(1, 0), 0);
        Check.due("held(1, 1) anew", house.held(1, 1), 0);
        Check.due("held(2, 1) anew", house.held(2, 1), 0);
        Check.due("held(4, 1) anew", house.held(4, 1), 0);
        Check.due("held(0, 0) anew", house.held(0, 0), 128);
    }

    /** A glyph's program sees what the size left, from the first entry on. */
    private static void seenByGlyphs() {
        FontKit kit = new FontKit().addEmpty();
        kit.cvt = FontKit.words(5, 6);
        kit.prep = FontKit.prog(FontKit.push(0, 70), 66, FontKit.push(1, 71), 66, FontKit.push(0), 22,
            FontKit.push(0, 30), 72, FontKit.push(1, 31), 72, 0, FontKit.push(0, 40), 72, FontKit.push(0, 2), 56);
        kit.addSquare(FontKit.push(0), 67, 133, FontKit.push(0), 69, 141);
        kit.addSquare(FontKit.push(0), 21, FontKit.push(0), 70, 133, FontKit.push(1), 71, 141);
        kit.addSquare(FontKit.push(0), 21, 0, FontKit.push(0), 70, 133, FontKit.push(0), 71, 141);
        HintHouse house = kit.sized(10);
        int[][] due = {{70, 5}, {30, 31}, {42, 40}};
        for (int g = 1; g <= 3; g++) {
            house.make(g);
            Check.due("told(7) of " + g, house.told(7), due[g - 1][0]);
            Check.due("told(8) of " + g, house.told(8), due[g - 1][1]);
        }
        Check.due("held(3, 0)", house.held(3, 0), 42);
        Check.due("held(5, 0)", house.held(5, 0), 40);
    }

    private static void failing() {
        FontKit kit = new FontKit().addEmpty();
        kit.fpgm = FontKit.prog(FontKit.push(0, 5), 66, FontKit.push(3), 133);
        kit.prep = FontKit.prog(75, FontKit.push(20), 84, 88, 33, 33, 89);
        HintHouse house = kit.sized(10);
        Check.due("make(0)", house.make(0), 0);
        Check.due("size(20) fails", house.size(20), -101);
        Check.due("told(6) then", house.told(6), 0);
        Check.due("told(7) then", house.told(7), 0);
        Check.due("told(2) then", house.told(2), 1);
        Check.due("told(3) then", house.told(3), 7);
        Check.due("held(1, 0) then", house.held(1, 0), 0);
        Check.due("make(0) then", house.make(0), -3);
        Check.due("isIn(0, 0) then", house.isIn(0, 0), -3);
        Check.due("size(11)", house.size(11), 8);
        Check.due("told(7)", house.told(7), 3);
        Check.due("isIn(0, 0), nothing made", house.isIn(0, 0), -3);
        kit.fpgm = FontKit.prog(FontKit.push(1, 0), 98);
        Check.due("fpgm fails", kit.house().size(11), -107);
        Check.due("load() takes the size away", reloaded(), -3);
    }

    private static int reloaded() {
        HintHouse house = new FontKit().addEmpty().sized(10);
        house.load();
        return house.make(0);
    }
}

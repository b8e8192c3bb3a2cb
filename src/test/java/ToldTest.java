/** Promise 13: told. */
public final class ToldTest {
    public static void main(String[] args) {
        course();
        scans();
        stacks();
        Check.done();
    }

    private static int[] p(int... values) {
        return values;
    }

    private static void all(String what, HintHouse house, int... due) {
        for (int k = 0; k < due.length; k++) {
            Check.due(what + ": told(" + k + ")", house.told(k), due[k]);
        }
        Check.due(what + ": told(10)", house.told(10), 0);
        Check.due(what + ": told(-1)", house.told(-1), 0);
    }

    private static FontKit kit() {
        FontKit kit = new FontKit().addEmpty().addSquare().addSquare(p(1, 2, 3), 96, 1);
        kit.addSquare(1, 1, 33);
        kit.prep = FontKit.prog(p(5), 133, p(6), 141);
        return kit;
    }

    private static void course() {
        HintHouse house = kit().house();
        all("loaded", house, 0, 0, 0, -1, 0, 0, 0, 0, 0, 0);
        house.size(10);
        all("sized", house, 4, 0, 0, -1, 0, 0, 10, 5, 6, 1);
        house.make(1);
        all("without a program", house, 0, 0, 0, -1, 400, 1, 10, 5, 6, 1);
        house.make(2);
        all("with a program", house, 3, 0, 0, -1, 384, 1, 10, 5, 6, 3);
        house.make(3);
        all("failed", house, 3, 1, 1, 2, 0, 0, 10, 5, 6, 3);
        Check.due("make(9)", house.make(9), -1);
        Check.due("size(1)", house.size(1), -2);
        all("refused", house, 3, 1, 1, 2, 0, 0, 10, 5, 6, 3);
        house.load();
        all("loaded again", house, 3, 1, 1, 2, 0, 0, 0, 0, 0, 0);
        house.wipe();
        house.load();
        all("a fault", house, 3, 1, 1, 2, 0, 0, 0, 0, 0, 0);
        FontKit bad = kit();
        bad.prep = FontKit.prog(1, 33);
        FontKit.feed(house, bad.font());
        house.wipe();
        FontKit.feed(house, bad.font());
        house.load();
        house.size(12);
        all("a size that failed", house, 2, 2, 1, 1, 0, 0, 0, 0, 0, 0);
        house.size(13);
        all("again", house, 2, 3, 1, 1, 0, 0, 0, 0, 0, 0);
    }

    private static void scans() {
        FontKit kit = new FontKit().addEmpty().addSquare().addSquare(p(50), 133).addSquare(p(60), 141, 33);
        kit.prep = FontKit.prog(p(5), 133, p(6), 141);
        HintHouse house = kit.sized(10);
        house.make(2);
        Check.due("SCAN of its program", house.told(7), 50);
        Check.due("SCAN KIND as the size left it", house.told(8), 6);
        house.make(1);
        Check.due("SCAN without a program", house.told(7), 5);
        house.make(2);
        house.make(3);
        Check.due("SCAN of nothing made", house.told(7), 5);
        Check.due("SCAN KIND of nothing made", house.told(8), 6);
    }

    private static void stacks() {
        FontKit kit = new FontKit().addEmpty().addSquare(p(1, 2, 3, 4, 5), 34, p(1)).addSquare(p(1, 2));
        kit.fpgm = FontKit.prog(p(1, 2, 3));
        HintHouse house = kit.sized(10);
        Check.due("of fpgm", house.told(9), 3);
        house.make(1);
        Check.due("of a glyph", house.told(9), 5);
        house.make(2);
        house.size(10);
        Check.due("the greatest stays", house.told(9), 5);
        house.load();
        Check.due("till load()", house.told(9), 0);
    }
}

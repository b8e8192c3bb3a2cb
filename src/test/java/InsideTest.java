/** Promise 15: isIn, exactly. */
public final class InsideTest {
    public static void main(String[] args) {
        ranges();
        square();
        winding();
        curves();
        onlyOff();
        degenerate();
        Check.done();
    }

    private static HintHouse made(int[]... contours) {
        FontKit kit = new FontKit().addEmpty().add(0, 0, FontKit.simple(0, new byte[0], contours));
        HintHouse house = kit.sized(10);
        house.make(1);
        return house;
    }

    private static int[] p(int... values) {
        return values;
    }

    private static void in(String what, HintHouse house, int x, int y, int due) {
        Check.due(what + ": isIn(" + x + ", " + y + ")", house.isIn(x, y), due);
    }

    private static void ranges() {
        HintHouse none = new HintHouse();
        in("none", none, 9999, 0, -3);
        HintHouse house = made(FontKit.square(0, 0, 10));
        in("edge", house, 5000, -5000, 0);
        in("beyond", house, 5001, 0, -2);
        in("beyond", house, 0, -5001, -2);
        in("far beyond", house, Integer.MIN_VALUE, 0, -2);
        house.make(0);
        in("an empty glyph", house, 0, 0, 0);
        house.make(9);
        house.size(11);
        in("nothing made", house, 0, 0, -3);
    }

    private static void square() {
        HintHouse house = made(FontKit.square(0, 0, 10));
        for (int x = -1; x < 12; x++) {
            for (int y = -1; y < 12; y++) {
                in("square", house, x, y, x >= 0 && x <= 10 && y >= 0 && y <= 10 ? 1 : 0);
            }
        }
    }

    private static void winding() {
        int[] outer = FontKit.square(0, 0, 30);
        int[] same = FontKit.square(10, 10, 10);
        int[] other = p(10, 10, 1, 10, 20, 1, 20, 20, 1, 20, 10, 1);
        in("two the same way", made(outer, same), 15, 15, 1);
        HintHouse hole = made(outer, other);
        in("a hole", hole, 15, 15, 0);
        in("the hole's side", hole, 10, 15, 1);
        in("the hole's corner", hole, 20, 20, 1);
        in("beside the hole", hole, 9, 15, 1);
        HintHouse star = made(p(0, 0, 1, 60, 40, 1, 0, 40, 1, 60, 0, 1, 30, 70, 1));
        in("the middle of a star", star, 30, 25, 1);
        in("outside of a star", star, 30, 1, 0);
        HintHouse apart = made(FontKit.square(0, 0, 10), p(20, 0, 1, 20, 10, 1, 30, 10, 1, 30, 0, 1));
        in("the right one turns right", apart, 25, 5, 1);
        in("between", apart, 15, 5, 0);
    }

    private static void curves() {
        // From 0, 0 over 20, 40 to 40, 0: at t = 1/2 it is 20, 20; at 1/4 it is 10, 15.
        HintHouse arch = made(p(0, 0, 1, 20, 40, 0, 40, 0, 1));
        in("on top", arch, 20, 20, 1);
        in("above", arch, 20, 21, 0);
        in("on the curve", arch, 10, 15, 1);
        in("beside the curve", arch, 9, 15, 0);
        in("in the curve", arch, 11, 15, 1);
        in("on the line", arch, 20, 0, 1);
        in("below", arch, 20, -1, 0);
        in("at the end", arch, 40, 0, 1);
        in("beyond the end", arch, 41, 0, 0);
        // The same the other way.
        HintHouse back = made(p(40, 0, 1, 20, 40, 0, 0, 0, 1));
        in("on top, the other way", back, 20, 20, 1);
        in("above, the other way", back, 20, 21, 0);
        in("in, the other way", back, 20, 10, 1);
        // A curve that cuts into a triangle: the chord 0, 0 to 40, 0 is not part of it.
        HintHouse bite = made(p(0, 0, 1, 20, 20, 0, 40, 0, 1, 40, 40, 1, 0, 40, 1));
        in("in the bite", bite, 20, 5, 0);
        in("on the chord", bite, 20, 0, 0);
        in("on the bite", bite, 20, 10, 1);
        in("above the bite", bite, 20, 11, 1);
        HintHouse lying = made(p(0, 0, 1, 20, 20, 0, 0, 40, 1, 40, 40, 1, 40, 0, 1));
        in("on an upright chord", lying, 0, 20, 0);
        in("on the curve beside it", lying, 10, 20, 1);
        in("right of it", lying, 11, 20, 1);
        in("left of it", lying, 9, 20, 0);
    }

    private static void onlyOff() {
        // A ring of four points off it: the middles are 5, 0; 10, 5; 5, 10; 0, 5.
        HintHouse ring = made(p(0, 0, 0, 10, 0, 0, 10, 10, 0, 0, 10, 0));
        in("a middle", ring, 5, 0, 1);
        in("a corner", ring, 0, 0, 0);
        in("the middle", ring, 5, 5, 1);
        in("near the corner", ring, 1, 1, 0);
        in("within", ring, 2, 2, 1);
        // Middles at halves: 1, 1 and 2, 2 apart. Between 0, 0 and 5, 0 it is 2.5, 0.
        HintHouse halves = made(p(0, 0, 0, 5, 0, 0, 5, 5, 0, 0, 5, 0));
        in("beside a half", halves, 2, 0, 0);
        in("above a half", halves, 2, 1, 1);
        HintHouse two = made(p(0, 0, 0, 8, 0, 0));
        in("two off: their middle", two, 4, 0, 1);
        in("two off: as far as halfway", two, 2, 0, 1);
        in("two off: no farther", two, 1, 0, 0);
        in("two off: the other way", two, 6, 0, 1);
        in("two off: no farther, the other way", two, 7, 0, 0);
    }

    private static void degenerate() {
        HintHouse dot = made(p(3, 4, 1));
        in("a point", dot, 3, 4, 1);
        in("beside a point", dot, 3, 5, 0);
        in("left of a point", dot, 2, 4, 0);
        HintHouse off = made(p(3, 4, 0));
        in("a point off", off, 3, 4, 1);
        in("beside a point off", off, 4, 4, 0);
        HintHouse line = made(p(0, 0, 1, 6, 3, 1));
        in("a line", line, 2, 1, 1);
        in("beside a line", line, 2, 2, 0);
        in("beyond a line", line, 8, 4, 0);
        HintHouse whip = made(p(0, 0, 1, 12, 4, 0));
        in("there and back, halfway", whip, 6, 2, 1);
        in("there and back, no farther", whip, 9, 3, 0);
        HintHouse long1 = made(p(0, 0, 1, 12, 0, 0, 4, 0, 1));
        // 24 t - 20 t t is at most 7.2.
        in("beyond its ends", long1, 7, 0, 1);
        in("no farther", long1, 8, 0, 0);
        HintHouse same = made(p(5, 5, 1, 5, 5, 0, 5, 5, 1));
        in("one place", same, 5, 5, 1);
        in("beside one place", same, 4, 5, 0);
    }
}

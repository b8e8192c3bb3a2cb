/** Promises 16, 17, 18: canvas, draw, pixel. */
public final class CanvasTest {
    public static void main(String[] args) {
        ranges();
        drawing();
        edges();
        Check.done();
    }

    private static void ranges() {
        HintHouse house = new FontKit().addEmpty().addSquare().house();
        int[][] wrong = {{0, 1}, {1, 0}, {129, 1}, {1, 129}, {-1, 5}, {Integer.MAX_VALUE, 1}};
        for (int[] size : wrong) {
            Check.due("canvas(" + size[0] + ", " + size[1] + ")", house.canvas(size[0], size[1]), -2);
        }
        Check.due("pixel(0, 0) without one", house.pixel(0, 0), -1);
        Check.due("canvas(128, 128)", house.canvas(128, 128), 1);
        Check.due("pixel(127, 127)", house.pixel(127, 127), 0);
        Check.due("canvas(2, 3)", house.canvas(2, 3), 1);
        Check.due("pixel(1, 2)", house.pixel(1, 2), 0);
        Check.due("pixel(2, 0)", house.pixel(2, 0), -1);
        Check.due("pixel(0, 3)", house.pixel(0, 3), -1);
        Check.due("pixel(-1, 0)", house.pixel(-1, 0), -1);
        Check.due("pixel(0, -1)", house.pixel(0, -1), -1);
        Check.due("draw(0, 0) without a size", house.draw(0, 0), -3);
        house.size(10);
        Check.due("draw(0, 0) of nothing", house.draw(99999, 0), -3);
        house.make(1);
        Check.due("draw(20001, 0)", house.draw(20001, 0), -2);
        Check.due("draw(0, -20001)", house.draw(0, -20001), -2);
        Check.due("draw(20000, -20000)", house.draw(20000, -20000), 0);
        HintHouse bare = new FontKit().addEmpty().addSquare().sized(10);
        bare.make(1);
        Check.due("draw(0, 0) without a canvas", bare.draw(0, 0), -3);
        Check.due("canvas(0, 0) there", bare.canvas(0, 0), -2);
        Check.due("draw(20001, 0) without a canvas", bare.draw(20001, 0), -3);
    }

    private static void drawing() {
        HintHouse house = new FontKit().addEmpty().addSquare().sized(10);
        house.make(1);
        house.canvas(8, 7);
        // The square is 5 by 5 pixels.
        Check.due("draw(0, 0)", house.draw(0, 0), 25);
        Check.due("draw(0, 0) again", house.draw(0, 0), 0);
        Check.due("draw(64, 64)", house.draw(64, 64), 9);
        Check.due("pixel(0, 0)", house.pixel(0, 0), 1);
        Check.due("pixel(5, 5)", house.pixel(5, 5), 1);
        Check.due("pixel(5, 0)", house.pixel(5, 0), 0);
        Check.due("pixel(6, 6)", house.pixel(6, 6), 0);
        Check.due("draw(0, 0) of nothing", house.make(0) + house.draw(0, 0), 0);
        Check.due("canvas(8, 7)", house.canvas(8, 7), 1);
        Check.due("pixel(0, 0) anew", house.pixel(0, 0), 0);
        house.make(1);
        Check.due("half outside", house.draw(-160, 320), 3 * 2);
        house.load();
        Check.due("the canvas stays at load()", house.pixel(0, 6), 1);
    }

    /** Middles that lie just on the side are in. */
    private static void edges() {
        HintHouse house = new FontKit().addEmpty().addSquare().sized(10);
        house.make(1);
        house.canvas(10, 10);
        Check.due("draw(32, 32)", house.draw(32, 32), 36);
        house.canvas(10, 10);
        Check.due("draw(33, 31)", house.draw(33, 31), 25);
        house.canvas(10, 10);
        Check.due("draw(-32, 32)", house.draw(-32, 32), 30);
        FontKit dots = new FontKit().addEmpty();
        dots.add(0, 0, FontKit.simple(0, new byte[0], new int[] {32, 96, 1}, new int[] {33, 32, 1}));
        HintHouse dot = dots.sized(10);
        dot.make(1);
        dot.canvas(3, 3);
        Check.due("a point on a middle", dot.draw(0, 0), 1);
        Check.due("its pixel", dot.pixel(0, 1), 1);
    }
}

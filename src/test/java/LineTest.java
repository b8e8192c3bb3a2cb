/** Promises 19 and 20: type, line. */
public final class LineTest {
    public static void main(String[] args) {
        typing();
        ranges();
        setting();
        failing();
        tooFar();
        Check.done();
    }

    private static int[] p(int... values) {
        return values;
    }

    private static void typing() {
        HintHouse house = new HintHouse();
        Check.due("type(-1)", house.type(-1), -2);
        Check.due("type(1114112)", house.type(1114112), -2);
        for (int k = 1; k <= 100; k++) {
            Check.due("type(" + k + ")", house.type(k == 7 ? 1114111 : k - 1), k);
        }
        Check.due("type(0), the 101st", house.type(0), -4);
        Check.due("type(-1), full", house.type(-1), -2);
    }

    private static void ranges() {
        FontKit kit = new FontKit().addEmpty().addSquare();
        HintHouse house = kit.house();
        house.type(66);
        Check.due("line(99999, 0) without a size", house.line(99999, 0), -3);
        house.size(10);
        Check.due("line(0, 0) without a canvas", house.line(0, 0), -3);
        house.canvas(10, 10);
        Check.due("line(20001, 0)", house.line(20001, 0), -2);
        Check.due("line(0, -20001)", house.line(0, -20001), -2);
        Check.due("the codes stay", house.type(66), 2);
        Check.due("line(0, 0)", house.line(0, 0), 800);
        Check.due("the codes are gone", house.type(66), 1);
        Check.due("line(-20000, 20000)", house.line(-20000, 20000), -19600);
        Check.due("line(5, 5) of no codes", house.line(5, 5), 5);
        Check.due("what was made stays", house.point(2, 0), 320);
    }

    private static void setting() {
        FontKit kit = new FontKit().addEmpty();
        kit.add(100, 0, FontKit.simple(0, new byte[0], FontKit.square(0, 0, 64)));
        kit.add(130, 0, FontKit.simple(0, FontKit.prog(1), FontKit.square(0, 0, 64)));
        kit.kern = FontKit.kerns(0, 1, 7, 1, 1, -36, 1, 2, 28);
        HintHouse house = kit.sized(10);
        house.canvas(8, 1);
        house.type(66);
        house.type(66);
        // 0 .. 64, then at 100 - 36 = 64.
        Check.due("line(0, 0)", house.line(0, 0), 164);
        int[] first = {1, 1, 0, 0, 0, 0, 0, 0};
        row(house, first);
        house.canvas(8, 1);
        house.type(66);
        house.type(67);
        house.type(66);
        house.type(1000);
        house.type(66);
        // 0; 100 + 28 = 128; 128 + 128 (rounded) = 256; 356, empty, 556; 563.
        Check.due("line(0, 0) of five", house.line(0, 0), 663);
        row(house, p(1, 0, 1, 0, 1, 0, 0, 0));
        Check.due("told(4)", house.told(4), 100);
        house.size(20);
        house.canvas(8, 1);
        house.type(66);
        house.type(66);
        Check.due("line(0, 0) at 20", house.line(0, 0), 328);
        row(house, p(1, 1, 1, 1, 0, 0, 0, 0));
        house.type(65);
        house.type(66);
        Check.due("kern of glyph 0", house.line(0, 0), 400 + 14 + 200);
    }

    private static void row(HintHouse house, int[] due) {
        for (int i = 0; i < due.length; i++) {
            Check.due("pixel(" + i + ", 0)", house.pixel(i, 0), due[i]);
        }
    }

    private static void failing() {
        FontKit kit = new FontKit().addEmpty();
        kit.add(100, 0, FontKit.simple(0, new byte[0], FontKit.square(0, 0, 64)));
        kit.addSquare(1, 33);
        HintHouse house = kit.sized(10);
        house.canvas(8, 1);
        house.type(66);
        house.type(67);
        house.type(66);
        Check.due("line(0, 0) with a failure", house.line(0, 0), -1000101);
        row(house, p(1, 0, 0, 0, 0, 0, 0, 0));
        Check.due("nothing is made", house.draw(0, 0), -3);
        Check.due("told(1)", house.told(1), 1);
        Check.due("told(3)", house.told(3), 1);
        Check.due("the codes are gone", house.type(66), 1);
    }

    private static void tooFar() {
        FontKit kit = new FontKit().addEmpty();
        kit.add(100, 0, FontKit.simple(0, new byte[0], FontKit.square(0, 0, 64)));
        HintHouse house = kit.sized(10);
        house.canvas(1, 1);
        house.type(66);
        house.type(66);
        house.type(65);
        Check.due("up to 20000", house.line(19800, 0), 20200);
        house.type(66);
        house.type(66);
        house.type(65);
        Check.due("beyond 20000", house.line(19801, 0), -1000200);
        Check.due("that one is made", house.isIn(0, 0), 0);
        Check.due("its advance", house.told(4), 200);
        Check.due("the codes are gone", house.type(66), 1);
        FontKit left = new FontKit().addEmpty();
        left.add(100, 0, FontKit.simple(0, FontKit.prog(p(5, -300), 56), FontKit.square(0, 0, 64)));
        HintHouse other = left.sized(10);
        other.canvas(1, 1);
        other.type(66);
        other.type(66);
        Check.due("below -20000", other.line(-20000, 0), -1000200);
        Check.due("that one is made", other.isIn(0, 0), 1);
    }
}

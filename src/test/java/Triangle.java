/**
 * Programs of a glyph, at UNITS 640 and PPEM 10: its points are 10, 20; 110, 40; 70, 200 (not ON) and,
 * a contour of its own, 30, 30; its PHANTOMS are 4 at 0 and 5 at 400. CVT 100, -50, 64, 130.
 */
final class Triangle {
    private Triangle() {
    }

    static FontKit kit(Object... program) {
        FontKit kit = new FontKit().addEmpty();
        kit.cvt = FontKit.words(100, -50, 64, 130);
        kit.add(400, 10, FontKit.simple(10, FontKit.prog(program),
            FontKit.push(10, 20, 1, 110, 40, 1, 70, 200, 0), FontKit.push(30, 30, 1)));
        return kit;
    }

    static HintHouse made(String what, Object... program) {
        HintHouse house = kit(program).sized(10);
        Check.due(what + ": make(1)", house.make(1), 4);
        return house;
    }

    static void at(String what, HintHouse house, int i, int x, int y) {
        Check.due(what + ": x of " + i, house.point(i, 0), x);
        Check.due(what + ": y of " + i, house.point(i, 1), y);
    }

    static void moves(String what, int i, int x, int y, Object... program) {
        at(what, made(what, program), i, x, y);
    }

    /** What the codes leave on top of the stack, by SCAN. */
    static void gives(String what, int due, Object... codes) {
        HintHouse house = made(what, FontKit.prog(codes), 133);
        Check.due(what, house.told(7), due);
    }

    static void fails(String what, int failure, Object... codes) {
        HintHouse house = kit(codes).sized(10);
        Check.due(what, house.make(1), -100 - failure);
        Check.due(what + ": told(2)", house.told(2), failure);
    }
}

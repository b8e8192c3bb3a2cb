/**
 * Programs that run as prep: UNITS 640 at PPEM 10, so that a unit is a 64th of a pixel; CVT 100, -50, 64;
 * four TWILIGHT points, 16 STORAGE, 8 FUNCTIONS, 2 OWN CODES, a STACK of 32.
 */
final class Prep {
    private Prep() {
    }

    static FontKit kit(Object... prep) {
        FontKit kit = new FontKit().addEmpty();
        kit.cvt = FontKit.words(100, -50, 64);
        kit.prep = FontKit.prog(prep);
        return kit;
    }

    /** A house where the program has run, without a failure. */
    static HintHouse ran(String what, Object... prep) {
        return sized(what, kit(prep));
    }

    static HintHouse sized(String what, FontKit kit) {
        HintHouse house = kit.house();
        int answer = house.size(10);
        if (answer < 0) {
            Check.due(what + ": size(10)", answer, 0);
        }
        return house;
    }

    /** What the codes leave on top of the stack. */
    static void gives(String what, long due, Object... codes) {
        HintHouse house = ran(what, FontKit.prog(codes), FontKit.push(9), 35, 66);
        Check.due(what, house.held(1, 9), due);
    }

    static void fails(String what, int failure, int place, Object... codes) {
        failsIn(what, kit(codes), failure, place);
    }

    static void failsIn(String what, FontKit kit, int failure, int place) {
        HintHouse house = kit.house();
        Check.due(what, house.size(10), -100 - failure);
        Check.due(what + ": told(2)", house.told(2), failure);
        Check.due(what + ": told(3)", house.told(3), place);
    }
}

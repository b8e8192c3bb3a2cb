/** Promises 1, 2, 3: a new object, feed, wipe. */
public final class BytesTest {
    public static void main(String[] args) {
        newObject();
        feeding();
        fullHouse();
        loadedStays();
        Check.done();
    }

    private static void newObject() {
        HintHouse x = new HintHouse();
        Check.due("NONE", HintHouse.NONE, -1);
        Check.due("wipe() of a new object", x.wipe(), 0);
        Check.due("font(0) of a new object", x.font(0), -3);
        Check.due("load() of no bytes", x.load(), -101);
        for (int what = -1; what < 11; what++) {
            Check.due("told(" + what + ")", x.told(what), what == 3 ? -1 : 0);
        }
        Check.due("pixel(0, 0) without a canvas", x.pixel(0, 0), -1);
        Check.due("held(0, 0) without a size", x.held(0, 0), 0);
        Check.due("point(0, 0) of nothing", x.point(0, 0), 0);
    }

    private static void feeding() {
        HintHouse x = new HintHouse();
        Check.due("feed(0, 1)", x.feed(0, 1), -2);
        Check.due("feed(9, 1)", x.feed(9, 1), -2);
        Check.due("feed(-1, 1)", x.feed(-1, 1), -2);
        Check.due("feed(int least, 1)", x.feed(Integer.MIN_VALUE, 1), -2);
        Check.due("feed(1, 256 + 7)", x.feed(1, 263), 1);
        Check.due("feed(8, -1)", x.feed(8, -1), 9);
        Check.due("wipe()", x.wipe(), 9);
        Check.due("wipe() again", x.wipe(), 0);
    }

    private static void fullHouse() {
        HintHouse x = new HintHouse();
        for (int k = 1; k <= 1500; k++) {
            Check.due("feed(8, " + k + ")", x.feed(8, k), 8 * k);
        }
        Check.due("feed(1, 0) at 12000", x.feed(1, 0), -4);
        Check.due("feed(9, 0) at 12000", x.feed(9, 0), -2);
        Check.due("wipe() at 12000", x.wipe(), 12000);
        for (int k = 1; k < 1500; k++) {
            x.feed(8, k);
        }
        Check.due("feed(7, 0) at 11992", x.feed(7, 0), 11999);
        Check.due("feed(2, 0) at 11999", x.feed(2, 0), -4);
        Check.due("feed(1, 0) at 11999", x.feed(1, 0), 12000);
    }

    /** The order of the bytes shows in what is loaded; feeding and wiping leave that as it is. */
    private static void loadedStays() {
        FontKit kit = new FontKit().addEmpty().addSquare();
        HintHouse x = new HintHouse();
        byte[] font = kit.font();
        for (byte b : font) {
            x.feed(1, b);
        }
        Check.due("load() byte by byte", x.load(), 2);
        Check.due("wipe() behind load()", x.wipe(), font.length);
        Check.due("font(9) behind wipe()", x.font(9), font.length);
        x.feed(3, 1);
        Check.due("font(9) behind feed()", x.font(9), font.length);
        Check.due("size(10) behind wipe()", x.size(10), 0);
        Check.due("make(1) behind wipe()", x.make(1), 4);
        Check.due("load() of three bytes", x.load(), -101);
        Check.due("font(9) behind a fault", x.font(9), -3);
        Check.due("make(1) behind a fault", x.make(1), -3);
        Check.due("wipe() behind a fault", x.wipe(), 3);
    }
}

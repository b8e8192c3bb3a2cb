import java.util.Random;

/** The edges that "7 PIXELS, LINES" names: what lies on the outline, FAILURE 13, the canvas, a line's ends. */
public final class EdgesPixelsTest {
    public static void main(String[] args) {
        oneByOne();
        outlinesByChance(11, 60, 10, 0);
        outlinesByChance(12, 60, 24, -12);
        outlinesOfManyPoints();
        drawnByChance();
        middlesOfTwo();
        aheadOfItsProgram();
        aheadInParts();
        atLast();
        canvasSizes();
        middlesOfPixels();
        toOneSide();
        farAway();
        lineOfNone();
        lineKerns();
        lineAtItsPlace();
        lineTooFar();
        lineFails();
        Check.done();
    }

    private static int[] p(int... values) {
        return values;
    }

    private static HintHouse made(int[]... contours) {
        FontKit kit = new FontKit().add(0, 0, FontKit.simple(0, new byte[0], contours));
        HintHouse house = kit.sized(10);
        Check.due("make(0) of an outline", house.make(0) >= 0 ? 1 : 0, 1);
        return house;
    }

    /** Both ways agree on all places from - 1 to to + 1. */
    private static void agree(String what, int from, int to, int[]... contours) {
        HintHouse house = made(contours);
        Outline outline = new Outline(contours);
        for (int y = from - 1; y <= to + 1; y++) {
            for (int x = from - 1; x <= to + 1; x++) {
                int due = outline.isIn(x, y) ? 1 : 0;
                Check.due(what + ": isIn(" + x + ", " + y + ")", house.isIn(x, y), due);
            }
        }
    }

    /** Curves and lines through places, corners, chords, turns, that shapes by chance seldom meet. */
    private static void oneByOne() {
        agree("an arch", 0, 16, p(0, 0, 1, 8, 16, 0, 16, 0, 1));
        agree("an arch, the other way", 0, 16, p(16, 0, 1, 8, 16, 0, 0, 0, 1));
        agree("lying", 0, 16, p(0, 0, 1, 16, 8, 0, 0, 16, 1));
        agree("lying, the other way", 0, 16, p(16, 0, 1, 0, 8, 0, 16, 16, 1));
        agree("a bite", 0, 16, p(0, 0, 1, 8, 8, 0, 16, 0, 1, 16, 16, 1, 0, 16, 1));
        agree("a bite from the right", 0, 16, p(0, 0, 1, 16, 0, 1, 8, 8, 0, 16, 16, 1, 0, 16, 1));
        agree("a bite aslant", 0, 16, p(0, 0, 1, 0, 12, 0, 16, 16, 1, 16, 0, 1));
        agree("there and back", 0, 12, p(0, 0, 1, 12, 4, 0));
        agree("on one line", 0, 12, p(0, 0, 1, 12, 12, 0, 4, 4, 1));
        agree("on one upright line", 0, 12, p(3, 0, 1, 3, 12, 0, 3, 4, 1));
        agree("on one level line", 0, 12, p(0, 3, 1, 12, 3, 0, 4, 3, 1));
        agree("beyond both ends", 0, 12, p(4, 3, 1, 12, 3, 0, 4, 3, 1), p(8, 6, 1, 0, 6, 0, 6, 6, 1));
        agree("a ring", 0, 12, p(0, 0, 0, 12, 0, 0, 12, 12, 0, 0, 12, 0));
        agree("a ring around a ring", 0, 12, p(0, 0, 0, 12, 0, 0, 12, 12, 0, 0, 12, 0), p(3, 3, 0, 3, 9, 0, 9, 9, 0, 9, 3, 0));
        agree("an eight", 0, 12, p(0, 0, 1, 12, 12, 1, 12, 0, 1, 0, 12, 1));
        agree("twice around", 0, 12, p(0, 0, 1, 12, 0, 1, 12, 12, 1, 0, 12, 1, 0, 0, 1, 12, 0, 1, 12, 12, 1, 0, 12, 1));
        agree("there and back around", 0, 12, p(0, 0, 1, 12, 0, 1, 12, 12, 1), p(0, 0, 1, 12, 12, 1, 12, 0, 1));
        agree("one place", 0, 8, p(4, 4, 1), p(6, 2, 0), p(1, 1, 1, 1, 1, 0, 1, 1, 0));
        agree("a curve that turns in y", 0, 20, p(0, 10, 1, 10, 20, 0, 20, 10, 1, 10, 0, 0));
        agree("a curve that turns in x", 0, 20, p(10, 0, 1, 20, 10, 0, 10, 20, 1, 0, 10, 0));
        agree("all off, two", 0, 12, p(0, 0, 0, 12, 8, 0));
        agree("all off, three", 0, 13, p(0, 0, 0, 13, 1, 0, 5, 12, 0));
        agree("no points", 0, 3);
    }

    private static int[][] byChance(Random random, int most, int points, int size, int from) {
        int[][] contours = new int[1 + random.nextInt(most)][];
        for (int c = 0; c < contours.length; c++) {
            int n = 1 + random.nextInt(points);
            contours[c] = new int[3 * n];
            for (int i = 0; i < n; i++) {
                contours[c][3 * i] = from + random.nextInt(size + 1);
                contours[c][3 * i + 1] = from + random.nextInt(size + 1);
                contours[c][3 * i + 2] = random.nextInt(2);
            }
        }
        return contours;
    }

    /** The same seed each time: the same shapes. */
    private static void outlinesByChance(int seed, int count, int size, int from) {
        Random random = new Random(seed);
        for (int k = 0; k < count * 10; k++) {
            int[][] contours = byChance(random, 3, 6, size, from);
            HintHouse house = made(contours);
            Outline outline = new Outline(contours);
            for (int turn = 0; turn < 150; turn++) {
                int x = from - 1 + random.nextInt(size + 3);
                int y = from - 1 + random.nextInt(size + 3);
                Check.due("shape " + k + " of " + seed + ": isIn(" + x + ", " + y + ")", house.isIn(x, y), outline.isIn(x, y) ? 1 : 0);
            }
        }
    }

    /** As many pieces as there can be points. */
    private static void outlinesOfManyPoints() {
        Random random = new Random(13);
        for (int k = 0; k < 20; k++) {
            int[] contour = new int[300];
            for (int i = 0; i < 100; i++) {
                contour[3 * i] = random.nextInt(30);
                contour[3 * i + 1] = random.nextInt(30);
                contour[3 * i + 2] = k % 3 == 0 ? 1 : k % 3 == 1 ? 0 : random.nextInt(2);
            }
            HintHouse house = made(contour);
            Outline outline = new Outline(contour);
            for (int turn = 0; turn < 300; turn++) {
                int x = random.nextInt(32) - 1;
                int y = random.nextInt(32) - 1;
                Check.due("100 points, " + k + ": isIn(" + x + ", " + y + ")", house.isIn(x, y), outline.isIn(x, y) ? 1 : 0);
            }
        }
    }

    /** "DRAWN at x, y the PIXELS become 1 whose middle, less x, y, is IN": each of them, and as many as draw() tells. */
    private static void drawnByChance() {
        Random random = new Random(14);
        for (int k = 0; k < 120; k++) {
            int[][] contours = byChance(random, 3, 6, 640, -100);
            HintHouse house = made(contours);
            Outline outline = new Outline(contours);
            int width = 1 + random.nextInt(12);
            int height = 1 + random.nextInt(12);
            int x = random.nextInt(300) - 100;
            int y = random.nextInt(300) - 100;
            house.canvas(width, height);
            int count = 0;
            for (int j = 0; j < height; j++) {
                for (int i = 0; i < width; i++) {
                    count += outline.isIn(64 * i + 32 - x, 64 * j + 32 - y) ? 1 : 0;
                }
            }
            Check.due("drawing " + k + ": draw(" + x + ", " + y + ")", house.draw(x, y), count);
            for (int j = 0; j < height; j++) {
                for (int i = 0; i < width; i++) {
                    int due = outline.isIn(64 * i + 32 - x, 64 * j + 32 - y) ? 1 : 0;
                    Check.due("drawing " + k + ": pixel(" + i + ", " + j + ")", house.pixel(i, j), due);
                }
            }
            Check.due("drawing " + k + " again", house.draw(x, y), 0);
        }
    }

    /** "between two that are not ON there is one more, ON, in their middle (exactly)": at 0.5, 0 and 0.5, 4 here. */
    private static void middlesOfTwo() {
        HintHouse house = made(p(0, 0, 0, 1, 0, 0, 1, 4, 0, 0, 4, 0));
        int[][] due = {{0, 0, 0}, {1, 0, 0}, {0, 1, 0}, {0, 2, 1}, {1, 2, 1}, {0, 3, 0}, {1, 4, 0}, {0, 4, 0}};
        for (int[] row : due) {
            Check.due("isIn(" + row[0] + ", " + row[1] + ")", house.isIn(row[0], row[1]), row[2]);
        }
        // The middle of 0, 0 and 1, 1 is no place in 64ths; of 0, 0 and 2, 2 it is.
        Check.due("a middle at halves", made(p(0, 0, 0, 1, 1, 0)).isIn(0, 0) + made(p(0, 0, 0, 1, 1, 0)).isIn(1, 1), 0);
        Check.due("a middle", made(p(0, 0, 0, 2, 2, 0)).isIn(1, 1), 1);
    }

    /** A glyph whose last point lies at x, y, all others nearer; its program has one step. */
    private static FontKit far(int x, int y) {
        int n = 32;
        int[] contour = new int[3 * n];
        for (int i = 0; i < n; i++) {
            contour[3 * i] = (int) ((long) x * (i + 1) / n);
            contour[3 * i + 1] = (int) ((long) y * (i + 1) / n);
        }
        return new FontKit().add(0, 0, FontKit.simple(0, FontKit.prog(1), contour));
    }

    /** "a point ... of an OUTLINE as it is ahead of its program is not within -1000000 .. 1000000 in x and y". */
    private static void aheadOfItsProgram() {
        int[][] due = {{1000000, 0, 1}, {1000001, 0, 0}, {-1000000, 0, 1}, {-1000001, 0, 0}, {0, 1000000, 1}, {0, 1000001, 0}, {0, -1000000, 1},
            {0, -1000001, 0}, {1000000, -1000000, 1}};
        for (int[] row : due) {
            HintHouse house = far(row[0], row[1]).sized(10);
            // Both times it FAILS, but only behind its program is there a STEP.
            Check.due("a point at " + row[0] + ", " + row[1], house.make(0), -113);
            Check.due("a point at " + row[0] + ", " + row[1] + ": STEPS", house.told(0), row[2]);
            Check.due("a point at " + row[0] + ", " + row[1] + ": told(3)", house.told(3), -1);
        }
        // PHANTOMS aside: 65535 units of 192 are more than 12 millions.
        FontKit kit = new FontKit().add(65535, 0, FontKit.simple(0, FontKit.prog(1), p(0, 0, 1)));
        kit.units = 16;
        HintHouse house = kit.sized(48);
        Check.due("a PHANTOM far away", house.make(0), 1);
        Check.due("its ADVANCE", house.told(4), 65535 * 192);
    }

    /** The same of a part (a part may be far away behind its program), and of a whole. */
    private static void aheadInParts() {
        FontKit kit = far(1000001, 0);
        kit.add(0, 0, FontKit.composed(0, FontKit.part(2 + 8, 0, 0, 0, 1)));
        HintHouse house = kit.sized(10);
        Check.due("a part at 1000001, made small", house.make(1), -113);
        FontKit near = far(1000000, 0);
        near.add(0, 0, FontKit.composed(0, FontKit.part(2 + 8, 0, 0, 0, 64)));
        house = near.sized(10);
        Check.due("a part at 1000000, made small", house.make(1), 32);
        Check.due("its last point", house.point(31, 0), 3906);
        // Behind its program a part may be anywhere; 2 times 600000 is too much for the whole.
        FontKit moved = new FontKit().add(0, 0, FontKit.simple(0, FontKit.prog(p(0), FontKit.number(600000), 72), p(0, 0, 1)));
        moved.add(0, 0, FontKit.withProgram(FontKit.composed(0, FontKit.part(2 + 256, 0, 0, 0)), p(0, 0), 72));
        moved.add(0, 0, FontKit.withProgram(FontKit.composed(0, FontKit.part(2 + 8 + 256, 0, 0, 0, 32767)), p(0, 0), 72));
        house = moved.sized(10);
        Check.due("600000", house.make(1), 1);
        Check.due("1199963", house.make(2), -113);
        Check.due("1199963: STEPS of the part alone", house.told(0), 1 + 10 + 1);
    }

    /** "or one of the glyph that was asked for, at last (when all points have gone to the left), not within -4096 .. 4096". */
    private static void atLast() {
        int[][] due = {{4096, 0, 1}, {4097, 0, 0}, {-4096, 0, 1}, {-4097, 0, 0}, {0, 4096, 1}, {0, 4097, 0}, {0, -4096, 1}, {0, -4097, 0}, {4096, -4096, 1}};
        for (int[] row : due) {
            for (int side : p(0, 100, -100)) {
                FontKit kit = new FontKit().add(0, -side, FontKit.simple(0, new byte[0], p(row[0] + side, row[1], 1)));
                // As a part it may lie farther off.
                kit.add(0, 0, FontKit.composed(0, FontKit.part(3, 0, -row[0], -row[1])));
                HintHouse house = kit.sized(10);
                String what = row[0] + ", " + row[1] + ", to the left by " + side;
                Check.due(what, house.make(0), row[2] == 1 ? 1 : -113);
                Check.due(what + ": told(3)", house.told(3), -1);
                Check.due(what + ": isIn()", house.isIn(0, 0), row[2] == 1 ? 0 : -3);
                Check.due(what + ", as a part", house.make(1), 1);
            }
        }
        FontKit last = new FontKit().add(0, 0, FontKit.simple(0, new byte[0], p(0, 0, 1, 1, 1, 1), p(0, 4097, 1)));
        Check.due("the last point of the last contour", last.sized(10).make(0), -113);
    }

    /** "THE CANVAS has 1 .. 128 by 1 .. 128 PIXELS, all 0 at first". */
    private static void canvasSizes() {
        int[] sizes = {Integer.MIN_VALUE, -1, 0, 1, 2, 127, 128, 129, Integer.MAX_VALUE};
        for (int width : sizes) {
            for (int height : sizes) {
                HintHouse house = made(FontKit.square(-4096, -4096, 8192));
                house.canvas(3, 3);
                Check.due("draw(0, 0) on 3 by 3", house.draw(0, 0), 9);
                boolean right = width >= 1 && width <= 128 && height >= 1 && height <= 128;
                String what = "canvas(" + width + ", " + height + ")";
                Check.due(what, house.canvas(width, height), right ? 1 : -2);
                int w = right ? width : 3;
                int h = right ? height : 3;
                int was = right ? 0 : 1;
                Check.due(what + ": the first one", house.pixel(0, 0), was);
                Check.due(what + ": the last one", house.pixel(w - 1, h - 1), was);
                Check.due(what + ": beyond in i", house.pixel(w, 0), -1);
                Check.due(what + ": beyond in j", house.pixel(0, h), -1);
                Check.due(what + ": below in i", house.pixel(-1, 0), -1);
                Check.due(what + ": below in j", house.pixel(0, -1), -1);
                if (right) {
                    // The square reaches from -4096 to 4096: 64 pixels from 0 on.
                    Check.due(what + ": draw()", house.draw(4096, 4096), w * h);
                    Check.due(what + ": the last one then", house.pixel(w - 1, h - 1), 1);
                }
            }
        }
        HintHouse house = made(FontKit.square(0, 0, 64));
        Check.due("pixel(the greatest, 0)", house.pixel(Integer.MAX_VALUE, 0), -1);
        house.canvas(2, 2);
        Check.due("pixel(0, the least)", house.pixel(0, Integer.MIN_VALUE), -1);
    }

    /** "PIXEL i, j has its middle at 64 i + 32, 64 j + 32". */
    private static void middlesOfPixels() {
        for (int x = -34; x <= 98; x++) {
            HintHouse house = made(p(32, 32, 1));
            int due = x == 0 || x == 64 ? 1 : 0;
            house.canvas(2, 2);
            Check.due("a point drawn at " + x + ", 0", house.draw(x, 0), due);
            house.canvas(2, 2);
            Check.due("a point drawn at 64, " + x, house.draw(64, x), due);
        }
        // A square of 64 from 32 on has four middles on its corners.
        HintHouse square = made(FontKit.square(32, 32, 64));
        square.canvas(4, 4);
        Check.due("a square on middles", square.draw(0, 0), 4);
        square.canvas(4, 4);
        Check.due("a square by 1", square.draw(1, 1), 1);
        Check.due("a square by 1: which", square.pixel(1, 1), 1);
        square.canvas(4, 4);
        Check.due("a square by -1, 0", square.draw(-1, 0), 2);
    }

    /** Outlines that lie to one side of 0 alone, drawn so that they are seen. */
    private static void toOneSide() {
        int[][] sides = {{-320, -320}, {64, 64}, {-320, 64}, {64, -320}, {-129, -129}};
        for (int[] side : sides) {
            HintHouse house = made(FontKit.square(side[0], side[1], 128));
            house.canvas(8, 8);
            Check.due("a square from " + side[0] + ", " + side[1], house.draw(128 - side[0], 192 - side[1]), 4);
            for (int j = 0; j < 8; j++) {
                for (int i = 0; i < 8; i++) {
                    int due = (i == 2 || i == 3) && (j == 3 || j == 4) ? 1 : 0;
                    Check.due("pixel(" + i + ", " + j + ") of a square from " + side[0], house.pixel(i, j), due);
                }
            }
        }
    }

    /** "-2 x or y is not -20000 .. 20000", "-2 x or y is not -5000 .. 5000": nothing is drawn there, but no more than that. */
    private static void farAway() {
        HintHouse house = made(FontKit.square(-4096, -4096, 8192));
        house.canvas(128, 128);
        int[][] draws = {{20000, 0, 0}, {-20000, 0, 0}, {0, 20000, 0}, {0, -20000, 0}, {20001, 0, -2}, {-20001, 0, -2}, {0, 20001, -2}, {0, -20001, -2},
            {Integer.MAX_VALUE, 0, -2}, {0, Integer.MIN_VALUE, -2}, {12256, 12256, 1}, {-4064, -4064, 1}, {12257, 0, 0}, {0, -4129, 0}};
        for (int[] row : draws) {
            Check.due("draw(" + row[0] + ", " + row[1] + ")", house.draw(row[0], row[1]), row[2]);
        }
        int[][] places = {{5000, 0, 0}, {-5000, 0, 0}, {0, 5000, 0}, {0, -5000, 0}, {5001, 0, -2}, {-5001, 0, -2}, {0, 5001, -2}, {0, -5001, -2},
            {Integer.MIN_VALUE, 0, -2}, {0, Integer.MAX_VALUE, -2}, {4096, 4096, 1}, {-4096, -4096, 1}, {4097, 0, 0}, {0, -4097, 0}};
        for (int[] row : places) {
            Check.due("isIn(" + row[0] + ", " + row[1] + ")", house.isIn(row[0], row[1]), row[2]);
        }
        // Curves as large as can be.
        int[] wide = p(-4096, -4096, 0, 4096, -4096, 0, 4096, 4096, 0, -4096, 4096, 0);
        HintHouse ring = made(wide);
        Outline outline = new Outline(wide);
        for (int x = -5000; x <= 5000; x += 625) {
            for (int y = -5000; y <= 5000; y += 625) {
                Check.due("a wide ring: isIn(" + x + ", " + y + ")", ring.isIn(x, y), outline.isIn(x, y) ? 1 : 0);
            }
        }
        int[][] near = {{-4096, 0}, {-4097, 0}, {0, 4096}, {0, 4097}, {-2048, -3072}, {-3072, -2048}, {-3073, -3073}, {-2896, -2896}, {-2898, -2898}};
        for (int[] place : near) {
            Check.due("a wide ring: isIn(" + place[0] + ", " + place[1] + ")", ring.isIn(place[0], place[1]), outline.isIn(place[0], place[1]) ? 1 : 0);
        }
    }

    /** A LINE of no CODES. */
    private static void lineOfNone() {
        HintHouse house = made(FontKit.square(0, 0, 64));
        house.canvas(2, 2);
        for (int x : p(-20000, 0, 20000)) {
            Check.due("line(" + x + ", 0) of none", house.line(x, 0), x);
        }
        Check.due("what is made stays", house.isIn(0, 0), 1);
        Check.due("told(0) stays", house.told(0), 0);
        Check.due("nothing is drawn", house.pixel(0, 0), 0);
    }

    /** "x grows by the KERN of the one before and it, SCALED": none before the first one, none between two lines. */
    private static void lineKerns() {
        FontKit kit = new FontKit().add(100, 0, new byte[0]).add(10, 0, new byte[0]);
        kit.kern = FontKit.kerns(0, 0, 1, 0, 1, 2, 1, 0, 4, 1, 1, 8);
        kit.units = 1280;
        HintHouse house = kit.house();
        house.size(10);
        house.canvas(1, 1);
        // Halves at UNITS 1280: 1 is 1, 2 is 1, 4 is 2, 8 is 4; the advances are 50 and 5.
        String[] lines = {"A", "B", "AA", "AB", "BA", "BB", "ABBA", "?", "A?", "B?B"};
        int[] due = {50, 5, 50 + 1 + 50, 50 + 1 + 5, 5 + 2 + 50, 5 + 4 + 5, 50 + 1 + 5 + 4 + 5 + 2 + 50, 50, 101, 5 + 2 + 50 + 1 + 5};
        for (int k = 0; k < lines.length; k++) {
            for (int i = 0; i < lines[k].length(); i++) {
                house.type(lines[k].charAt(i));
            }
            Check.due("line(0, 0) of " + lines[k], house.line(0, 0), due[k]);
        }
    }

    /** "DRAWN at x, y": each of a line at its own x, all at the line's y. */
    private static void lineAtItsPlace() {
        FontKit kit = new FontKit().add(128, 0, FontKit.simple(0, new byte[0], FontKit.square(0, 0, 64)));
        HintHouse house = kit.sized(10);
        for (int[] at : new int[][] {{0, 0}, {0, 128}, {64, 192}, {128, -64}, {-64, 64}}) {
            house.canvas(6, 5);
            house.type(65);
            house.type(65);
            Check.due("line(" + at[0] + ", " + at[1] + ")", house.line(at[0], at[1]), at[0] + 256);
            for (int j = 0; j < 5; j++) {
                for (int i = 0; i < 6; i++) {
                    boolean there = 64 * j == at[1] && (64 * i == at[0] || 64 * i == at[0] + 128);
                    Check.due("pixel(" + i + ", " + j + ") of a line at " + at[0] + ", " + at[1], house.pixel(i, j), there ? 1 : 0);
                }
            }
        }
    }

    /** "-1000200 if a glyph would be DRAWN with x beyond -20000 .. 20000 (likewise, MADE)". */
    private static void lineTooFar() {
        FontKit kit = new FontKit().add(1, 0, FontKit.simple(0, new byte[0], FontKit.square(0, 0, 64)));
        kit.add(3, 0, FontKit.simple(0, FontKit.prog(p(4), FontKit.number(-1), 56), FontKit.square(0, 0, 64)));
        kit.kern = FontKit.kerns(0, 1, 2, 1, 0, -7);
        HintHouse house = kit.sized(10);
        house.canvas(1, 1);
        // A is 1 wide, drawn at x; a second A at x + 1.
        int[][] due = {{19999, 20001}, {20000, -1000200}, {-20000, -19998}};
        for (int[] pair : due) {
            house.type(65);
            house.type(65);
            Check.due("line(" + pair[0] + ", 0) of AA", house.line(pair[0], 0), pair[1]);
            Check.due("that one is MADE", house.told(5), 1);
            Check.due("the CODES are gone", house.line(0, 0), 0);
        }
        // By the KERN, of 2: B comes to lie at 20000 from 19997 on; its ADVANCE is 1 by its program.
        int[][] kerned = {{19997, 20001}, {19998, -1000200}};
        for (int[] pair : kerned) {
            house.type(65);
            house.type(66);
            Check.due("line(" + pair[0] + ", 0) of AB", house.line(pair[0], 0), pair[1]);
        }
        // The KERN of -7 takes A back from 20001 to 19994.
        house.type(66);
        house.type(65);
        Check.due("line(20000, 0) of BA", house.line(20000, 0), 19995);
        leftTooFar();
    }

    private static void leftTooFar() {
        FontKit kit = new FontKit().add(0, 0, FontKit.simple(0, FontKit.prog(p(1, 1), 56), p(0, 0, 1)));
        kit.add(0, 0, FontKit.simple(0, FontKit.prog(p(1), FontKit.number(-30000), 56), p(-30000, 0, 1)));
        HintHouse house = kit.sized(10);
        house.canvas(1, 1);
        for (int x : p(-19999, -20000)) {
            house.type(65);
            house.type(65);
            Check.due("line(" + x + ", 0) of ADVANCE -1", house.line(x, 0), x == -19999 ? -20001 : -1000200);
        }
        house.type(66);
        Check.due("an ADVANCE of 30000", house.line(0, 0), 30000);
        house.type(66);
        house.type(65);
        Check.due("an ADVANCE of 30000, then one more", house.line(0, 0), -1000200);
        house.type(66);
        house.type(65);
        Check.due("an ADVANCE of 30000 from -20000", house.line(-20000, 0), 9999);
    }

    /** "-1000000 less 100 and the FAILURE, if a glyph FAILED (those before are DRAWN, that one is what is MADE: nothing)". */
    private static void lineFails() {
        FontKit kit = new FontKit().add(64, 0, FontKit.simple(0, new byte[0], FontKit.square(0, 0, 32)));
        kit.add(0, 0, FontKit.simple(0, FontKit.prog(15), FontKit.square(0, 0, 32)));
        kit.add(0, 0, FontKit.simple(0, new byte[0], p(4097, 0, 1)));
        HintHouse house = kit.sized(10);
        int[][] due = {{66, -1000103, 3}, {67, -1000113, 13}};
        for (int k = 0; k < due.length; k++) {
            house.canvas(4, 1);
            house.type(65);
            house.type(65);
            house.type(due[k][0]);
            house.type(65);
            Check.due("line(0, 0) with a FAILURE", house.line(0, 0), due[k][1]);
            Check.due("told(2)", house.told(2), due[k][2]);
            Check.due("told(1)", house.told(1), k + 1);
            int[] row = {1, 1, 0, 0};
            for (int i = 0; i < 4; i++) {
                Check.due("pixel(" + i + ", 0)", house.pixel(i, 0), row[i]);
            }
            Check.due("nothing is MADE", house.isIn(0, 0), -3);
            Check.due("draw(0, 0)", house.draw(0, 0), -3);
            Check.due("the CODES are gone", house.line(7, 0), 7);
        }
    }
}

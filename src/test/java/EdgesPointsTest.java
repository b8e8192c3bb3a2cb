/** The edges that "6 PROGRAMS" names of codes that look at points and move them. */
public final class EdgesPointsTest {
    public static void main(String[] args) {
        pointsThatThereAre();
        bothPointsOfTwo();
        referencesThatThereAre();
        pointsBeforeEntries();
        acrossTheVector();
        touchedByTheVector();
        untouched();
        oneTouched();
        equalOriginals();
        betweenTheTouched();
        movedButNotTouched();
        aroundTheContour();
        contours();
        zones();
        inFpgmAndPrep();
        topOneFirst();
        loopIsOne();
        references();
        singleCut();
        cut();
        least();
        flip();
        bitsOfMeasuring();
        twilight();
        deltasOfZones();
        interpolation();
        turning();
        ranges();
        turnedLeft();
        Check.done();
    }

    private static int[] p(int... values) {
        return values;
    }

    /** "5 no such point": 0 .. 5 are there (4 and 5 are the PHANTOMS), and TWILIGHT points 0 .. 3. */
    private static void pointsThatThereAre() {
        int[][] codes = {{41, 0}, {46, 0}, {47, 0}, {50, 0}, {51, 0}, {57, 0}, {60, 0}, {70, 0}, {71, 0}, {192, 0}, {223, 0},
            {56, 1}, {58, 1}, {59, 1}, {62, 1}, {63, 1}, {72, 1}, {224, 1}, {255, 1}};
        for (int[] row : codes) {
            for (int i : p(Integer.MIN_VALUE, -1, 0, 3, 4, 5, 6, Integer.MAX_VALUE)) {
                byte[] program = FontKit.prog(FontKit.number(i), row[1] == 1 ? p(0) : p(), row[0]);
                int answer = Triangle.kit(program).sized(10).make(1);
                Check.due("point " + i + " by " + row[0], answer, i >= 0 && i < 6 ? 4 : -105);
                answer = Triangle.kit(p(0), 22, program).sized(10).make(1);
                Check.due("TWILIGHT point " + i + " by " + row[0], answer, i >= 0 && i < 4 ? 4 : -105);
            }
        }
    }

    private static void bothPointsOfTwo() {
        for (int code : p(6, 7, 8, 9, 39, 73, 74, 134, 135)) {
            for (int i : p(-1, 0, 5, 6)) {
                boolean there = i == 0 || i == 5;
                Check.due(i + ", 0 by " + code, Triangle.kit(p(i, 0), code).sized(10).make(1), there ? 4 : -105);
                Check.due("0, " + i + " by " + code, Triangle.kit(p(0, i), code).sized(10).make(1), there ? 4 : -105);
            }
        }
        // Each in the zone that stands behind it: of four TWILIGHT points 5 is none, of the glyph's it is one.
        int[][] zones = {{6, 20, 21}, {7, 20, 21}, {8, 20, 21}, {9, 20, 21}, {39, 20, 19}, {73, 19, 20}, {74, 19, 20}, {134, 20, 21}, {135, 20, 21}};
        for (int[] row : zones) {
            for (int k = 1; k <= 2; k++) {
                boolean first = k == 1;
                Check.due("5, 0 by " + row[0] + ", zone 0 by " + row[k], Triangle.kit(p(0), row[k], p(5, 0), row[0]).sized(10).make(1), first ? -105 : 4);
                Check.due("0, 5 by " + row[0] + ", zone 0 by " + row[k], Triangle.kit(p(0), row[k], p(0, 5), row[0]).sized(10).make(1), first ? 4 : -105);
            }
        }
    }

    /** RP0, RP1, RP2 may be any numbers, until a code looks at them. */
    private static void referencesThatThereAre() {
        Object[][] codes = {{18, p(0), 50}, {17, p(0), 51}, {18, p(0), 52}, {17, p(0), 53}, {18, p(1), 54}, {17, p(1), 55}, {18, p(0), 54},
            {17, p(0), 57}, {18, p(0), 57}, {16, p(0, 0), 58}, {16, p(0, 0), 59}, {16, p(0), 60}, {16, p(0), 192}, {16, p(0), 223},
            {16, p(0, 0), 224}, {16, p(0, 0), 255}};
        for (Object[] row : codes) {
            for (int i : p(Integer.MIN_VALUE, -1, 0, 5, 6, Integer.MAX_VALUE)) {
                int answer = Triangle.kit(FontKit.number(i), row[0], row[1], row[2]).sized(10).make(1);
                Check.due("reference " + i + " by " + row[0] + " for " + row[2], answer, i == 0 || i == 5 ? 4 : -105);
            }
        }
        // Others do not look at them.
        byte[] far = FontKit.prog(p(99), 16, p(99), 17, p(99), 18);
        Object[][] free = {{p(0), 41}, {p(0), 46}, {p(0), 47}, {p(0, 9), 56}, {p(0, 0), 62}, {p(0, 0), 63}, {p(0, 0), 72}, {p(0, 1), 39}, {48}, {49}, {p(0), 128}};
        for (Object[] codes2 : free) {
            Check.due("no references for " + codes2[codes2.length - 1], Triangle.kit(far, FontKit.prog(codes2)).sized(10).make(1), 4);
        }
    }

    /** "the points are looked at first, p, then RP0; then n: 6". */
    private static void pointsBeforeEntries() {
        for (int code : p(62, 63, 224, 240, 255)) {
            Triangle.fails("no point, no CVT by " + code, 5, p(6, 4), code);
            Triangle.fails("no CVT 4 by " + code, 6, p(0, 4), code);
            Triangle.fails("no CVT -1 by " + code, 6, p(0, -1), code);
            Check.due("CVT 3 by " + code, Triangle.kit(p(0, 3), code).sized(10).make(1), 4);
            if (code > 63) {
                Triangle.fails("no RP0, no CVT by " + code, 5, p(6), 16, p(0, 4), code);
            }
        }
    }

    /** "q is (Fx Px + Fy Py) OVER 16384, or 16384, if its size is below 1024". */
    private static void acrossTheVector() {
        // P along x; F of 43, 687 is 1023, 16352; of 26, 415 it is 1024, 16352.
        int[][] due = {{43, 687, 1023, 16352, 16384}, {26, 415, 1024, 16352, 1024}, {-43, 687, -1023, 16352, 16384}, {-26, 415, -1024, 16352, -1024}};
        for (int[] row : due) {
            HintHouse house = Prep.ran("across", p(0), 22, p(row[0], row[1]), 11, 13, p(1), 35, 66, p(0), 35, 66, p(1, 1024), 72);
            String what = "F " + row[2] + ", " + row[3];
            Check.due(what + ": Fx", house.held(1, 0), row[2]);
            Check.due(what + ": Fy", house.held(1, 1), row[3]);
            Check.due(what + ": x", house.held(2, 1), Math.round(1024.0 * row[2] / row[4]));
            Check.due(what + ": y", house.held(3, 1), Math.round(1024.0 * row[3] / row[4]));
        }
        HintHouse right = Prep.ran("at right angles", p(0), 22, 4, p(1, 100), 72);
        Check.due("at right angles q is 16384: x", right.held(2, 1), 0);
        Check.due("at right angles q is 16384: y", right.held(3, 1), 100);
        HintHouse back = Prep.ran("the other way", p(0), 22, p(-1, 0), 11, p(1, 100), 72);
        Check.due("F the other way than P", back.held(2, 1), 100);
    }

    /** "it is TOUCHED in x if Fx is not 0, in y likewise", even if it goes nowhere. */
    private static void touchedByTheVector() {
        // Point 0 is touched (and stays), point 1 is moved by 20 in x and y: 2 goes along with 1, or lies between.
        byte[] far = FontKit.prog(1, p(1, 20), 56, 0, p(1, 20), 56, 1);
        int[][] ways = {{1, 0, 1, 0}, {0, 1, 0, 1}, {30000, 1, 1, 1}, {1, 30000, 1, 1}, {3, 4, 1, 1}, {-1, 0, 1, 0}};
        for (int[] way : ways) {
            for (int code : p(46, 47, 50, 56)) {
                byte[] touch = FontKit.prog(122, p(way[0], way[1]), 11, p(way[0], way[1]), 10, code == 56 ? p(0, 0) : p(0), code);
                HintHouse house = Triangle.made("touched by " + code, p(2), 18, far, touch, 48, 49);
                String what = "touched by " + code + " along " + way[0] + ", " + way[1];
                // 2 is at 70, 200: in x it lies between 10 and 110, in y above both.
                Triangle.at(what, house, 2, way[2] == 1 ? 82 : 90, 220);
                Triangle.at(what, house, 0, way[2] == 1 ? 10 : 30, way[3] == 1 ? 20 : 40);
            }
        }
    }

    /** "41: not TOUCHED any more in x, if Fx is not 0, in y, if Fy is not 0". */
    private static void untouched() {
        byte[] touch = FontKit.prog(p(3, 4), 11, p(0), 46, 1, p(1, 20), 56, 0, p(1, 20), 56);
        int[][] ways = {{1, 0, 1, 0}, {0, 1, 0, 1}, {30000, 1, 1, 1}, {1, 30000, 1, 1}};
        for (int[] way : ways) {
            HintHouse house = Triangle.made("41", touch, p(way[0], way[1]), 11, p(0), 41, 48, 49);
            Check.due("x of 0 behind 41 along " + way[0] + ", " + way[1], house.point(0, 0), way[2] == 1 ? 30 : 10);
            Check.due("y of 0 behind 41 along " + way[0] + ", " + way[1], house.point(0, 1), way[3] == 1 ? 40 : 20);
        }
        Triangle.moves("41 of one that is not touched", 0, 10, 20, p(0), 41);
    }

    /** "between the last TOUCHED one before it and the first behind it (around; perhaps the same)"; no TOUCHED ones: nothing. */
    private static void oneTouched() {
        for (int i = 0; i < 3; i++) {
            HintHouse house = Triangle.made("one touched", p(i, 7), 56, 49);
            int[] x = {17, 117, 77, 30};
            for (int k = 0; k < 4; k++) {
                Check.due("x of " + k + ", " + i + " touched", house.point(k, 0), x[k]);
            }
            HintHouse other = Triangle.made("one touched", p(i, 7), 56, 48);
            Check.due("48 does not see x", other.point((i + 1) % 3, 0), p(10, 110, 70)[(i + 1) % 3]);
        }
        HintHouse none = Triangle.made("none touched", 48, 49);
        Triangle.at("none touched", none, 0, 10, 20);
        HintHouse alone = Triangle.made("a contour of one point", p(3, 7), 56, 48, 49);
        Triangle.at("a contour of one point", alone, 3, 37, 30);
        Triangle.at("the other contour", alone, 0, 10, 20);
        HintHouse phantom = Triangle.made("a PHANTOM is of no contour", p(4, 64), 56, 49);
        Triangle.at("a PHANTOM", phantom, 0, 10 - 64, 20);
        HintHouse all = Triangle.made("all touched", p(0, 1), 56, p(1, 2), 56, p(2, 3), 56, 49);
        Triangle.at("all touched", all, 2, 73, 200);
    }

    /** A contour of points on one line, y 0; the program moves and touches some of them. */
    private static HintHouse row(int[] xs, Object... program) {
        int[] contour = new int[3 * xs.length];
        for (int i = 0; i < xs.length; i++) {
            contour[3 * i] = xs[i];
            contour[3 * i + 2] = 1;
        }
        FontKit kit = new FontKit().add(0, 0, FontKit.simple(0, FontKit.prog(program), contour));
        HintHouse house = kit.sized(10);
        Check.due("make(0)", house.make(0), xs.length);
        return house;
    }

    private static void xs(String what, HintHouse house, int... due) {
        for (int i = 0; i < due.length; i++) {
            Check.due(what + ": x of " + i, house.point(i, 0), due[i]);
        }
    }

    /** "with that one of lesser ORIGINAL a (of equals the one before), the other b". */
    private static void equalOriginals() {
        // 0 and 2 are touched, both at 50, moved by 7 and 9; 1 lies between them, 3 from 2 around to 0.
        byte[] moved = FontKit.prog(p(0, 7), 56, p(2, 9), 56, 49);
        xs("at the same", row(p(50, 50, 50, 50), moved), 57, 57, 59, 59);
        xs("below", row(p(50, 49, 50, 49), moved), 57, 56, 59, 58);
        xs("above", row(p(50, 51, 50, 51), moved), 57, 60, 59, 58);
    }

    /** "if its ORIGINAL is not above a's ...; else, not below b's ...; else a's CURRENT and ... OVER ..". */
    private static void betweenTheTouched() {
        // a at 100 goes to 110, b at 200 goes to 230.
        int[] middles = {99, 100, 101, 150, 199, 200, 201};
        int[] due = {109, 110, 111, 170, 229, 230, 231};
        for (int k = 0; k < middles.length; k++) {
            byte[] moved = FontKit.prog(p(0, 10), 56, p(2, 30), 56, 49);
            xs("at " + middles[k], row(p(100, middles[k], 200), moved), 110, due[k], 230);
            byte[] turned = FontKit.prog(p(0, 30), 56, p(2, 10), 56, 49);
            xs("at " + middles[k] + ", the other way", row(p(200, middles[k], 100), turned), 230, due[k], 110);
        }
        // Halves go away from 0: a at 0 stays, b at 4 goes to 6 (or to -6).
        xs("halves", row(p(0, 1, 2, 3, 4), p(0), 46, p(4, 2), 56, 49), 0, 2, 3, 5, 6);
        xs("halves below 0", row(p(0, 1, 2, 3, 4), p(0), 46, p(4, -10), 56, 49), 0, -2, -3, -5, -6);
        // b goes beyond a: what lies between is turned.
        xs("turned", row(p(0, 25, 100), p(0, 100), 56, p(2, -100), 56, 49), 100, 75, 0);
    }

    /** "if its ORIGINAL is not above a's, CURRENT is ORIGINAL and ...": where 41 left the point counts for nothing. */
    private static void movedButNotTouched() {
        int[] middles = {99, 100, 101, 150, 199, 200, 201};
        int[] due = {109, 110, 111, 170, 229, 230, 231};
        for (int k = 0; k < middles.length; k++) {
            for (int by : p(-500, -60, 60, 500)) {
                byte[] away = FontKit.prog(p(1, by), 56, p(1), 41);
                byte[] moved = FontKit.prog(p(0, 10), 56, p(2, 30), 56, 49);
                String what = "at " + middles[k] + ", moved by " + by;
                xs(what, row(p(100, middles[k], 200), away, moved), 110, due[k], 230);
                byte[] turned = FontKit.prog(p(0, 30), 56, p(2, 10), 56, 49);
                xs(what + ", the other way", row(p(200, middles[k], 100), away, turned), 230, due[k], 110);
            }
        }
    }

    /** "around": from the last touched one over the end to the first one. */
    private static void aroundTheContour() {
        xs("around", row(p(10, 20, 30, 40, 50), p(2, 5), 56, p(3, -5), 56, 49), 15, 25, 35, 35, 45);
        xs("the first and the last", row(p(10, 20, 30, 40, 50), p(0, 5), 56, p(4, 15), 56, 49), 15, 28, 40, 53, 65);
        xs("the last alone", row(p(10, 20, 30), p(2, 5), 56, 49), 15, 25, 35);
        FontKit kit = new FontKit().add(0, 0, FontKit.simple(0, FontKit.prog(p(5, 3), 56, 49), p(0, 0, 1, 9, 0, 1), p(5, 0, 1, 6, 0, 1, 7, 0, 1, 8, 0, 1), p(1, 0, 1)));
        HintHouse house = kit.sized(10);
        house.make(0);
        xs("the middle contour alone", house, 0, 9, 8, 9, 10, 11, 1);
    }

    /** "52, 53 (c -): likewise all points of contour c (of the glyph; ZP2 is 1, else 5) but the REFERENCE". */
    private static void contours() {
        for (int code = 52; code <= 53; code++) {
            for (int c : p(Integer.MIN_VALUE, -1, 0, 1, 2, Integer.MAX_VALUE)) {
                byte[] program = FontKit.prog(p(1, 18), 56, p(1), 17, p(1), 18, FontKit.number(c), code);
                HintHouse house = Triangle.kit(program).sized(10);
                boolean there = c == 0 || c == 1;
                Check.due("contour " + c + " by " + code, house.make(1), there ? 4 : -105);
                if (there) {
                    int[] due = c == 0 ? p(28, 128, 88, 30) : p(10, 128, 70, 48);
                    xs("contour " + c + " by " + code, house, due);
                }
            }
            Triangle.fails("ZP2 0 by " + code, 5, p(0), 21, p(0), code);
            Check.due("ZP0, ZP1 0 by " + code, Triangle.kit(p(0), 19, p(0), 20, p(0), code).sized(10).make(1), 4);
        }
    }

    /** "54, 55 (z -): of a zone (0 with ZONES 2: all, 1: those of contours; else 5) but the REFERENCE, not TOUCHED by that". */
    private static void zones() {
        byte[] moved = FontKit.prog(p(1, 18), 56, p(1), 17, p(1), 18);
        for (int code = 54; code <= 55; code++) {
            HintHouse house = Triangle.made("zone 1", moved, p(1), code);
            xs("zone 1 by " + code, house, 28, 128, 88, 48);
            Check.due("the PHANTOMS stay by " + code, house.told(4), 384);
            // TOUCHED are 1, and 0 by 46: by 49 then 2 lies between them (10 to 28, 110 to 128), 3 stays.
            HintHouse touched = Triangle.made("not TOUCHED", p(0), 46, moved, p(1), code, p(2, 50), 72, p(2), 41, 49);
            xs("not TOUCHED, but those that were, by " + code, touched, 28, 128, 88, 48);
            HintHouse free = Triangle.made("not TOUCHED", moved, p(1), code, p(1), 41, 49);
            xs("none TOUCHED by " + code, free, 28, 128, 88, 48);
            HintHouse still = Triangle.made("not TOUCHED", moved, p(1), code, p(0, 100), 72, p(0), 41, 49);
            xs("0 was not TOUCHED by " + code, still, 28, 128, 88, 48);
            // 1 goes 20 more: the others of its contour were not TOUCHED, and go by 38 in all.
            HintHouse along = Triangle.made("not TOUCHED", moved, p(1), code, p(1, 20), 56, 49);
            xs("they go along with 1 by " + code, along, 48, 148, 108, 48);
            // All TWILIGHT points, the first and the last.
            for (int i : p(0, 3)) {
                Triangle.gives("TWILIGHT point " + i + " by " + code, 18, moved, p(0), code, p(0), 21, p(i), 70);
            }
            Triangle.gives("zone 0 by " + code + " leaves zone 1", 10, moved, p(0), code, p(0), 70);
        }
    }

    /** "In fpgm, prep there is no contour and no point of zone 1 ... the REFERENCE must be there always, else 5". */
    private static void inFpgmAndPrep() {
        byte[] reference = FontKit.prog(p(0), 19, p(0), 20);
        for (int k = 0; k < 2; k++) {
            int[][] due = {{52, 0, -105}, {53, 0, -105}, {54, 1, 6}, {55, 1, 6}, {54, 0, 6}, {55, 0, 6}, {54, 2, -105}};
            for (int[] row : due) {
                FontKit kit = Prep.kit();
                byte[] program = FontKit.prog(reference, p(row[1]), row[0]);
                kit.fpgm = k == 0 ? program : null;
                kit.prep = k == 1 ? program : null;
                Check.due("code " + row[0] + " of " + row[1] + " in " + k, kit.house().size(10), row[2]);
            }
            FontKit fill = Prep.kit();
            fill.fpgm = k == 0 ? FontKit.prog(48, 49) : null;
            fill.prep = k == 1 ? FontKit.prog(48, 49) : null;
            Check.due("48, 49 in " + k, fill.house().size(10), 2);
        }
        Prep.fails("54 without its reference", 5, 4, p(0), 54);
        Prep.fails("54 with a reference that is not there", 5, 14, p(0), 20, p(4), 18, p(0), 54);
        Check.due("54 with the last one", Prep.kit(p(0), 20, p(3), 18, p(0), 54).house().size(10), 6);
        Prep.fails("46 of zone 1", 5, 4, p(0), 46);
        Prep.fails("129 in prep", 5, 6, p(0, 0), 129);
        Check.due("129 of none in prep", Prep.kit(p(1, 0), 129).house().size(10), 2);
        Prep.fails("128 in prep", 5, 4, p(0), 128);
        FontKit one = Prep.kit(p(0), 70);
        one.zones = 1;
        one.twilight = 0;
        Prep.failsIn("70 with ZONES 1", one, 5, 4);
    }

    /** "(Points are taken one by one, the top one first.)": the lower one is none, the upper one is looked at first. */
    private static void topOneFirst() {
        HintHouse house = Triangle.made("56 of three", p(2), 23, p(3, 0, 1, 9), 56, p(7), 56);
        xs("56 of two of three", house, 19, 119, 70, 37);
        for (int code : p(50, 51, 57, 60)) {
            Triangle.fails("the lower one by " + code, 5, p(2), 23, p(9, 0), code);
            Triangle.fails("the upper one by " + code, 5, p(2), 23, p(0, 9), code);
        }
        // The same point twice goes twice.
        xs("56 of one twice", Triangle.made("56", p(2), 23, p(0, 0, 9), 56), 28, 110, 70, 30);
        xs("50 of one twice", Triangle.made("50", p(1, 5), 56, p(1), 18, p(2), 23, p(0, 0), 50), 20, 115, 70, 30);
        Check.due("128 of one twice", Triangle.made("128", p(2), 23, p(0, 0), 128).point(0, 2), 1);
    }

    /** "After these, and 128, LOOP is 1." */
    private static void loopIsOne() {
        Object[][] codes = {{p(0, 0), 50}, {p(0, 0), 51}, {p(0, 0, 0), 56}, {p(0, 0), 57}, {p(0, 0), 60}, {p(0, 0), 128}};
        for (Object[] row : codes) {
            Triangle.gives("LOOP behind " + row[1], 1, p(2), 23, row[0], row[1], p(7, 3, 0), 56, 36);
        }
        // A LOOP of 1 takes one.
        Triangle.gives("LOOP 1", 1, p(1), 23, p(7, 3, 0), 56, 36);
    }

    /** What each code leaves in RP0, RP1, RP2: 58 shows RP0, 51 RP1, 50 RP2, by points moved by 1, 2, 4, 8. */
    private static void references() {
        byte[] moved = FontKit.prog(p(0, 1), 56, p(1, 2), 56, p(2, 4), 56, p(3, 8), 56, p(0), 16, p(1), 17, p(2), 18, 122);
        // Points as codes leave them: RP0, RP1, RP2.
        int[][] due = {{46, 3, 3, 2}, {47, 3, 3, 2}, {62, 3, 3, 2}, {63, 3, 3, 2}, {58, 0, 0, 3}, {59, 3, 0, 3}, {192, 0, 0, 3}, {199, 0, 0, 3},
            {207, 0, 0, 3}, {208, 3, 0, 3}, {223, 3, 0, 3}, {224, 0, 0, 3}, {239, 0, 0, 3}, {240, 3, 0, 3}, {255, 3, 0, 3},
            {41, 0, 1, 2}, {50, 0, 1, 2}, {51, 0, 1, 2}, {56, 0, 1, 2}, {57, 0, 1, 2}, {60, 0, 1, 2}, {72, 0, 1, 2}, {39, 0, 1, 2}};
        for (int[] row : due) {
            boolean two = row[0] == 62 || row[0] == 63 || row[0] == 58 || row[0] == 59 || row[0] >= 224 || row[0] == 56 || row[0] == 72 || row[0] == 39;
            byte[] code = FontKit.prog(moved, two ? p(3, 0) : p(3), row[0]);
            String what = "code " + row[0];
            // Back to where each one was, and TWILIGHT point 0, at 0, goes by what the reference has moved.
            byte[] back = FontKit.prog(p(0, 11), 72, p(1, 112), 72, p(2, 74), 72, p(3, 38), 72, p(0), 21);
            Triangle.gives(what + ": RP1", p(1, 2, 4, 8)[row[2]], code, back, p(0), 51, p(0), 70);
            Triangle.gives(what + ": RP2", p(1, 2, 4, 8)[row[3]], code, back, p(0), 50, p(0), 70);
            Triangle.gives(what + ": RP0", p(11, 112, 74, 38)[row[1]], code, back, p(0), 20, p(0), 60, p(0), 70);
        }
    }

    /** "if the sizes of d's and SINGLE differ by less than SINGLE CUT, d is the size of SINGLE, with d's sign (0 as above 0)". */
    private static void singleCut() {
        // p is 3 at 30, RP0 is TWILIGHT point 0 at 0, SINGLE is 25 (or -25), SINGLE CUT 5.
        int[][] due = {{20, 20}, {21, 25}, {25, 25}, {29, 25}, {30, 30}, {31, 31}, {-20, -20}, {-21, -25}, {-29, -25}, {-30, -30}, {0, 0}};
        for (int single : p(25, -25)) {
            for (int[] pair : due) {
                FontKit kit = Prep.kit(p(single), 31, p(5), 30, p(0), 22, p(1, pair[0]), 72, p(1), 192);
                Check.due("d of " + pair[0] + " and SINGLE " + single, kit.sized(10).held(2, 1), pair[1]);
                FontKit byCvt = Prep.kit(78, p(single), 31, p(5), 30, p(0), 22, p(0, pair[0]), 68, p(1, 0), 224);
                Check.due("e of " + pair[0] + " and SINGLE " + single, byCvt.sized(10).held(2, 1), pair[1]);
            }
            for (int cut : p(25, 26)) {
                FontKit kit = Prep.kit(p(single), 31, p(cut), 30, p(0), 22, p(1), 192);
                Check.due("d of 0, SINGLE " + single + ", SINGLE CUT " + cut, kit.sized(10).held(2, 1), cut == 26 ? 25 : 0);
                FontKit byCvt = Prep.kit(p(single), 31, p(cut), 30, p(0), 22, p(0, 0), 68, p(1, 0), 224);
                Check.due("e of 0, SINGLE " + single + ", SINGLE CUT " + cut, byCvt.sized(10).held(2, 1), cut == 26 ? 25 : 0);
            }
        }
        FontKit none = Prep.kit(p(25), 31, p(0), 30, p(0), 22, p(1, 25), 72, p(1), 192);
        Check.due("SINGLE CUT 0, d as SINGLE", none.sized(10).held(2, 1), 25);
        FontKit below = Prep.kit(p(25), 31, p(-1), 30, p(0), 22, p(1, 26), 72, p(1), 192);
        Check.due("SINGLE CUT -1", below.sized(10).held(2, 1), 26);
        FontKit scaled = Prep.kit(p(50), 31, p(200), 30, p(0), 22, p(1, 26), 72, p(1), 192);
        HintHouse house = scaled.house();
        house.size(20);
        Check.due("SINGLE is SCALED", house.held(2, 1), 100);
    }

    /** "by 63 d is LONG, if the two differ by more than CUT, and is ROUNDED behind that"; "if ZP0 is ZP1, and e and d differ by more than CUT". */
    private static void cut() {
        // Point 1 is at 110; 122 leaves v itself.
        for (int cut : p(0, 1, 10, 11)) {
            for (int away : p(-11, -10, -2, -1, 0, 1, 2, 10, 11, 12)) {
                byte[] set = FontKit.prog(122, p(cut), 29, p(0, 110 + away), 68);
                boolean more = Math.abs(away) > cut;
                Triangle.moves("63, CUT " + cut + ", away " + away, 1, more ? 110 : 110 + away, 40, set, p(1, 0), 63);
                Triangle.moves("62, CUT " + cut + ", away " + away, 1, 110 + away, 40, set, p(1, 0), 62);
                // d is 100 from point 0.
                byte[] from0 = FontKit.prog(122, p(cut), 29, p(0, 100 + away), 68);
                Triangle.moves("228, CUT " + cut + ", away " + away, 1, more ? 110 : 110 + away, 40, from0, p(1, 0), 228);
                Triangle.moves("224, CUT " + cut + ", away " + away, 1, 110 + away, 40, from0, p(1, 0), 224);
                // RP0 is TWILIGHT point 0: ZP0 is not ZP1, d is 110.
                Triangle.moves("228 of two zones, CUT " + cut + ", away " + away, 1, 100 + away, 40, from0, p(0), 19, p(1, 0), 228);
            }
        }
        Triangle.moves("63, CUT -1", 1, 110, 40, 122, p(-1), 29, p(0, 110), 68, p(1, 0), 63);
        // ROUNDED whether they did or not; by 62 neither.
        Triangle.moves("63, ROUNDED CVT", 1, 128, 40, p(0, 100), 68, p(1, 0), 63);
        Triangle.moves("63, ROUNDED LONG", 1, 128, 40, p(5), 29, p(0, 30), 68, p(1, 0), 63);
        Triangle.moves("62, far away", 1, 30, 40, p(5), 29, p(0, 30), 68, p(1, 0), 62);
    }

    /** "with bit 8 and d from 0 on at least LEAST, below 0 at most -LEAST". */
    private static void least() {
        int[][] due = {{0, 64}, {1, 64}, {63, 64}, {64, 64}, {65, 65}, {-1, -64}, {-63, -64}, {-64, -64}, {-65, -65}};
        for (int[] pair : due) {
            FontKit kit = Prep.kit(122, p(0), 22, p(1, pair[0]), 72, p(1), 200);
            Check.due("200 of " + pair[0], kit.sized(10).held(2, 1), pair[1]);
            FontKit free = Prep.kit(122, p(0), 22, p(1, pair[0]), 72, p(1), 192);
            Check.due("192 of " + pair[0], free.sized(10).held(2, 1), pair[0]);
            FontKit byCvt = Prep.kit(122, p(0), 22, p(0, pair[0]), 68, p(1, 0), 232);
            Check.due("232 of " + pair[0], byCvt.sized(10).held(2, 1), pair[1]);
        }
        // The sign is d's, also if e is ROUNDED to 0.
        FontKit small = Prep.kit(p(0), 22, p(1, -10), 72, p(1), 204);
        Check.due("204 of -10", small.sized(10).held(2, 1), -64);
        FontKit none = Prep.kit(p(0), 22, p(-30), 26, p(1, 10), 72, p(1), 200, p(2, -10), 72, p(0), 16, p(2), 200);
        HintHouse house = none.sized(10);
        Check.due("LEAST -30 of 10", house.held(2, 1), 10);
        Check.due("LEAST -30 of -10", house.held(2, 2), -10);
    }

    /** "with FLIP, and d and e of other signs (one below 0), e is -e". */
    private static void flip() {
        // d is the place of p from RP0, e is CVT 0; point 0 of the glyph is RP0, at 10.
        int[][] due = {{50, 30, 30}, {50, -30, 30}, {-50, 30, -30}, {-50, -30, -30}, {0, 30, 30}, {0, -30, 30}, {50, 0, 0}, {-50, 0, 0}};
        for (int[] row : due) {
            FontKit kit = new FontKit().addEmpty();
            kit.cvt = FontKit.words(row[1]);
            kit.add(0, 0, FontKit.simple(0, FontKit.prog(p(1, 0), 224), p(100, 0, 1, 100 + row[0], 0, 1)));
            kit.add(0, 0, FontKit.simple(0, FontKit.prog(78, p(1, 0), 224), p(100, 0, 1, 100 + row[0], 0, 1)));
            HintHouse house = kit.sized(10);
            house.make(1);
            Check.due("FLIP: d " + row[0] + ", e " + row[1], house.point(1, 0), 100 + row[2]);
            house.make(2);
            Check.due("no FLIP: d " + row[0] + ", e " + row[1], house.point(1, 0), 100 + row[1]);
        }
        // CUT is asked behind FLIP: -50 is turned to 50, which lies within CUT of 60.
        Triangle.moves("CUT behind FLIP", 1, 10 + 64, 40, p(1, 70), 72, p(60), 29, p(1, 1), 228);
    }

    /** Bits 4, 8, 16 of 192 .. 255 each for itself; 1 and 2 count for nothing. */
    private static void bitsOfMeasuring() {
        for (int bits = 0; bits < 32; bits++) {
            // d is 20 (from 10 to 30), RP0 at 10: ROUNDED it is 0, at least 64 by bit 8.
            int e = (bits & 8) != 0 ? 64 : (bits & 4) != 0 ? 0 : 20;
            Triangle.moves("code " + (192 + bits), 3, 10 + e, 30, p(3), 192 + bits);
            Triangle.moves("code " + (192 + bits) + ", moved before", 3, 10 + e, 30, p(3, 99), 72, p(3), 192 + bits);
            Check.due("ON behind " + (192 + bits), Triangle.made("ON", p(3), 192 + bits).point(3, 2), 1);
            int byCvt = (bits & 8) != 0 ? 64 : (bits & 4) != 0 ? 64 : 40;
            Triangle.moves("code " + (224 + bits), 3, 10 + byCvt, 30, p(0, 40), 68, p(3, 0), 224 + bits);
            boolean sets = (bits & 16) != 0;
            Triangle.moves("RP0 behind " + (192 + bits), 2, sets ? 15 + e : 15, 200, p(3), 192 + bits, p(2, 5), 58);
            Triangle.moves("RP0 behind " + (224 + bits), 2, sets ? 15 + byCvt : 15, 200, p(0, 40), 68, p(3, 0), 224 + bits, p(2, 5), 58);
        }
    }

    /** "If p's zone is 0, p gets a new ORIGINAL, that is its CURRENT, too, ahead of all LONGS". */
    private static void twilight() {
        // F along 3, 4 (9830, 13107): d of 100 is 60, 80. RP0 is at 7, 9 and went to 12, 9: by P it lies 97 away then.
        byte[] slanted = FontKit.prog(p(0), 22, p(2, 7), 72, 0, p(2, 9), 72, 1, p(2, 5), 56, p(2), 16, p(3, 4), 11, p(3, 4), 10, 122);
        HintHouse house = Prep.ran("58", slanted, p(1, 100), 58);
        held("58", house, 1, 69, 91, 67, 89);
        house = Prep.ran("62", slanted, p(1, 0), 62);
        held("62", house, 1, 60, 80, 60, 80);
        house = Prep.ran("63", slanted, 24, p(1, 0), 63);
        held("63", house, 1, 77, 102, 60, 80);
        house = Prep.ran("224", slanted, p(1, 0), 224);
        held("224", house, 1, 69, 91, 67, 89);
        // e behind SINGLE, ahead of FLIP: -50 plants at -50, and d is -50 then, too.
        house = Prep.ran("224", p(0), 22, p(1, 1), 224);
        held("224 below 0", house, 1, -50, 0, -50, 0);
        house = Prep.ran("224", p(0), 22, p(40), 31, p(11), 30, p(1, 1), 224);
        held("224 by SINGLE", house, 1, -40, 0, -40, 0);
        // 192 plants nothing.
        house = Prep.ran("192", p(0), 22, p(1, 33), 72, p(1, 5), 56, p(1), 192);
        held("192", house, 1, 33, 0, 33, 0);
        // p and RP0 the same: its own ORIGINAL is what it is planted by.
        house = Prep.ran("58", p(0), 22, p(1, 33), 72, p(1), 16, p(1, 10), 58);
        held("58 of RP0 itself", house, 1, 53, 0, 43, 0);
        // The other zone pointer does not count: p of the glyph, RP0 in zone 0.
        Triangle.moves("58 with RP0 in zone 0", 1, 7, 40, p(0), 19, p(1, 7), 58);
        // "72: in ZONE 0 ORIGINAL is CURRENT then", of both x and y.
        house = Prep.ran("72", p(0), 22, p(1, 33), 56, 0, p(1, 44), 72);
        held("72", house, 1, 33, 44, 33, 44);
        Triangle.gives("72 of zone 1 leaves ORIGINAL", 110, p(1, 33), 72, p(1), 71);
    }

    /** "93, 113, 114 (v p/0 .. n -)": 4 and 5 are the glyph's PHANTOMS, but no TWILIGHT points. */
    private static void deltasOfZones() {
        int[][] codes = {{93, 9}, {113, -7}, {114, -23}};
        for (int[] row : codes) {
            for (int i : p(0, 3, 4, 5, 6)) {
                byte[] delta = FontKit.prog(p(row[1]), 94, p(0x18, i, 1), row[0]);
                Check.due("point " + i + " by " + row[0], Triangle.kit(delta).sized(10).make(1), i < 6 ? 4 : -105);
                Check.due("point " + i + " by " + row[0] + ", ZP0 0", Triangle.kit(p(0), 19, delta).sized(10).make(1), i < 4 ? 4 : -105);
                Check.due("point " + i + " by " + row[0] + ", ZP1, ZP2 0", Triangle.kit(p(0), 20, p(0), 21, delta).sized(10).make(1), i < 6 ? 4 : -105);
            }
            byte[] delta = FontKit.prog(p(row[1]), 94, p(0x18, 1, 1), row[0]);
            Triangle.moves("1 by " + row[0], 1, 118, 40, delta);
            Triangle.moves("1 by " + row[0] + ", ZP0 0", 1, 110, 40, p(0), 19, delta);
            Triangle.gives("TWILIGHT point 1 by " + row[0], 8, p(0), 19, delta, p(0), 21, p(1), 70);
        }
    }

    private static void held(String what, HintHouse house, int i, int... due) {
        for (int kind = 2; kind <= 5; kind++) {
            Check.due(what + ": held(" + kind + ", " + i + ")", house.held(kind, i), due[kind - 2]);
        }
    }

    /** "MOVED so that its LONG less RP1/0's is o c / t (nearest, by the signs), or o, if t is 0". */
    private static void interpolation() {
        // RP1 at 0; RP2 ORIGINAL t, CURRENT c; p ORIGINAL o.
        int[][] due = {{4, 6, 1, 2}, {4, 6, 3, 5}, {4, 6, -1, -2}, {4, 6, -3, -5}, {4, -6, 1, -2}, {4, -6, 3, -5}, {-4, 6, 1, -2}, {-4, 6, -1, 2},
            {-4, -6, 1, 2}, {-4, -6, 3, 5}, {4, 6, 0, 0}, {4, 0, 3, 0}, {0, 6, 3, 3}, {0, 6, -3, -3}, {1, 6, 3, 18}, {-1, 6, 3, -18}};
        for (int[] row : due) {
            HintHouse house = Prep.ran("57", p(0), 22, p(1, row[0]), 72, p(1, row[1] - row[0]), 56, p(2, row[2]), 72, p(2, 77), 56, p(1), 18, p(2), 57);
            Check.due("t " + row[0] + ", c " + row[1] + ", o " + row[2], house.held(2, 2), row[3]);
        }
        // From where RP1 is now: 10 there, so all lie 10 farther.
        HintHouse moved = Prep.ran("57", p(0), 22, p(1, 4), 72, p(0, 10), 56, p(1, 12), 56, p(2, 3), 72, p(1), 18, p(2), 57);
        Check.due("c is of both CURRENT ones", moved.held(2, 2), 10 + 5);
    }

    /** "128 (p/0 .. -): ON turns (ZP0 is 1, and p a point of a contour, else 5)". */
    private static void turning() {
        for (int i : p(-1, 0, 3, 4, 5, 6)) {
            HintHouse house = Triangle.kit(p(i), 128).sized(10);
            boolean there = i == 0 || i == 3;
            Check.due("128 of " + i, house.make(1), there ? 4 : -105);
            if (there) {
                Check.due("ON of " + i, house.point(i, 2), 0);
            }
        }
        Triangle.fails("128 with ZP0 0", 5, p(0), 19, p(0), 128);
        Check.due("128 with ZP1, ZP2 0", Triangle.kit(p(0), 20, p(0), 21, p(0), 128).sized(10).make(1), 4);
        Check.due("128 of one that is not ON", Triangle.made("128", p(2), 128).point(2, 2), 1);
    }

    /** "129, 130 (a b -): points a to b of the glyph are ON; not (none if b is below a)". */
    private static void ranges() {
        for (int code = 129; code <= 130; code++) {
            for (int a = -2; a <= 6; a++) {
                for (int b = -2; b <= 6; b++) {
                    HintHouse house = Triangle.kit(p(a, b), code).sized(10);
                    boolean right = b < a || a >= 0 && b <= 3;
                    Check.due(a + " to " + b + " by " + code, house.make(1), right ? 4 : -105);
                    for (int i = 0; right && i < 4; i++) {
                        int was = i == 2 ? 0 : 1;
                        Check.due("ON of " + i, house.point(i, 2), i >= a && i <= b ? 130 - code : was);
                    }
                }
            }
            Check.due("all with ZP0 0", Triangle.kit(p(0), 22, p(0, 3), code).sized(10).make(1), 4);
        }
    }

    /** "7, 9: turned left: (-y, x)"; "135: both turned left". */
    private static void turnedLeft() {
        byte[] points = FontKit.prog(p(0), 22, p(1, 300), 72, 0, p(1, 400), 72, 1, p(1, 400), 72, 0, p(1, 300), 72, 1, p(1, 300), 56);
        // Point 1: ORIGINAL 400, 300, CURRENT 700, 300. Less point 0 it is 700, 300 and 400, 300.
        int[][] due = {{6, 12, 15059, 6454}, {7, 12, -6454, 15059}, {8, 13, 15059, 6454}, {9, 13, -6454, 15059}, {134, 12, 15059, 6454}, {135, 12, -6454, 15059}};
        for (int[] row : due) {
            Prep.gives("x by " + row[0], row[2], points, p(1, 0), row[0], row[1], 33);
            Prep.gives("y by " + row[0], row[3], points, p(1, 0), row[0], row[1]);
            // The other way.
            Prep.gives("x by " + row[0] + ", the other way", -row[2], points, p(0, 1), row[0], row[1], 33);
        }
        // D by 134 is 13107, 9830, by 135 it is -9830, 13107: of ORIGINAL 400, 300 that is 500, and 0.
        Prep.gives("D by 6", 486, points, p(1, 0), 6, p(1), 71);
        Prep.gives("D by 7", 118, points, p(1, 0), 7, p(1), 71);
        Prep.gives("D by 8 stays", 400, points, p(1, 0), 8, p(1), 71);
        Prep.gives("D by 134", 500, points, p(1, 0), 134, p(1), 71);
        Prep.gives("D by 135", 0, points, p(1, 0), 135, p(1), 71);
        Prep.gives("D by 135 of another point", 32767 * 13107 / 16384, points, 0, p(2, 32767), 72, 1, p(1, 0), 135, p(2), 71);
        // Of one place: (16384, 0), turned left (0, 16384).
        Prep.gives("6 of one place", 16384, p(0), 22, p(1, 2), 6, 12, 33);
        Prep.gives("7 of one place", 16384, p(0), 22, p(1, 2), 7, 12);
        Prep.gives("7 of one place, x", 0, p(0), 22, p(1, 2), 7, 12, 33);
        Prep.gives("F by 6 stays", 16384, points, p(1, 0), 6, 13, 33);
        Prep.gives("P by 9 stays", 16384, points, p(1, 0), 9, 12, 33);
        Prep.gives("F by 134 stays", 16384, points, p(1, 0), 134, 13, 33);
    }
}

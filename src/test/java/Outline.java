import java.math.BigInteger;
import java.util.ArrayList;
import java.util.List;

/**
 * Decides what is IN another way than the class does: each curve is cut where it turns in y, and the sign of
 * u + v times the root of D is taken with whole numbers. All places are doubled, so that middles are whole.
 */
final class Outline {
    /** A piece: A, B, C (x, y each); a line has no B. */
    private final List<long[]> pieces = new ArrayList<>();

    /** Contours of x, y, ON for each point. */
    Outline(int[]... contours) {
        for (int[] contour : contours) {
            trace(contour);
        }
    }

    private void trace(int[] contour) {
        int n = contour.length / 3;
        List<long[]> points = new ArrayList<>();
        for (int i = 0; i < n; i++) {
            int j = (i + 1) % n;
            points.add(new long[] {2L * contour[3 * i], 2L * contour[3 * i + 1], n == 1 ? 1 : contour[3 * i + 2]});
            if (n > 1 && contour[3 * i + 2] == 0 && contour[3 * j + 2] == 0) {
                points.add(new long[] {contour[3 * i] + contour[3 * j], contour[3 * i + 1] + contour[3 * j + 1], 1});
            }
        }
        int first = 0;
        while (points.get(first)[2] == 0) {
            first++;
        }
        for (int k = 0; k < points.size(); k++) {
            long[] a = points.get((first + k) % points.size());
            long[] b = points.get((first + k + 1) % points.size());
            long[] c = points.get((first + k + 2) % points.size());
            if (a[2] == 1 && b[2] == 1) {
                pieces.add(new long[] {a[0], a[1], b[0], b[1]});
            } else if (a[2] == 1) {
                pieces.add(new long[] {a[0], a[1], b[0], b[1], c[0], c[1]});
            }
        }
    }

    boolean isIn(int x, int y) {
        int around = 0;
        for (long[] piece : pieces) {
            long[] moved = piece.clone();
            for (int k = 0; k < moved.length; k += 2) {
                moved[k] -= 2L * x;
                moved[k + 1] -= 2L * y;
            }
            if (moved.length == 4) {
                if (isOnLine(moved)) {
                    return true;
                }
                around += lineAround(moved);
            } else {
                long[] px = numbers(moved, 0);
                long[] py = numbers(moved, 1);
                if (isOnCurve(px, py)) {
                    return true;
                }
                around += curveAround(px, py);
            }
        }
        return around != 0;
    }

    private static boolean isOnLine(long[] line) {
        long cross = line[0] * line[3] - line[2] * line[1];
        return cross == 0 && Math.min(line[0], line[2]) <= 0 && Math.max(line[0], line[2]) >= 0
            && Math.min(line[1], line[3]) <= 0 && Math.max(line[1], line[3]) >= 0;
    }

    private static int lineAround(long[] line) {
        long cross = line[0] * line[3] - line[2] * line[1];
        if (line[1] <= 0 && line[3] > 0) {
            return cross > 0 ? 1 : 0;
        }
        return line[3] <= 0 && line[1] > 0 && cross < 0 ? -1 : 0;
    }

    /** a, b, c of a t t + b t + c. */
    private static long[] numbers(long[] curve, int axis) {
        return new long[] {curve[axis] - 2 * curve[2 + axis] + curve[4 + axis], 2 * (curve[2 + axis] - curve[axis]), curve[axis]};
    }

    /** The sign of u + v times the root of d. */
    private static int sign(long u, long v, long d) {
        int su = Long.signum(u);
        int sv = d == 0 ? 0 : Long.signum(v);
        if (su == 0 || sv == 0 || su == sv) {
            return su != 0 ? su : sv;
        }
        BigInteger first = BigInteger.valueOf(u).pow(2);
        BigInteger second = BigInteger.valueOf(v).pow(2).multiply(BigInteger.valueOf(d));
        return first.compareTo(second) > 0 ? su : first.compareTo(second) < 0 ? sv : 0;
    }

    /** The sign of the curve p at the root of q that lies to the side s of where q turns; q is not of one number alone. */
    private static int signAt(long[] p, long[] q, int s) {
        if (q[0] == 0) {
            // t is -c / b: times b b.
            return Long.signum(p[0] * q[2] * q[2] - p[1] * q[2] * q[1] + p[2] * q[1] * q[1]);
        }
        int turn = Long.signum(q[0]);
        long d = q[1] * q[1] - 4 * q[0] * q[2];
        long m = p[1] * q[0] - p[0] * q[1];
        long k = p[2] * q[0] - p[0] * q[2];
        return turn * sign(-m * q[1] * turn + 2 * Math.abs(q[0]) * k, m * s, d);
    }

    private static boolean hasRoot(long[] q) {
        return q[0] == 0 ? q[1] != 0 : q[1] * q[1] - 4 * q[0] * q[2] >= 0;
    }

    private static boolean isOnCurve(long[] px, long[] py) {
        boolean still = px[0] == 0 && px[1] == 0;
        if (still && (px[2] != 0 || py[0] == 0 && py[1] == 0)) {
            return px[2] == 0 && py[2] == 0;
        }
        long[] q = still ? py : px;
        long[] other = still ? px : py;
        if (!hasRoot(q)) {
            return false;
        }
        for (int s = -1; s <= 1; s += 2) {
            int from = signAt(new long[] {0, 1, 0}, q, s);
            int to = signAt(new long[] {0, -1, 1}, q, s);
            if (from >= 0 && to >= 0 && signAt(other, q, s) == 0) {
                return true;
            }
        }
        return false;
    }

    private static int curveAround(long[] px, long[] py) {
        int begin = Long.signum(py[2]);
        int end = Long.signum(py[0] + py[1] + py[2]);
        int turn = Long.signum(py[0]);
        // It turns at -b / 2a.
        boolean turns = turn != 0 && -py[1] * turn > 0 && -py[1] * turn < 2 * py[0] * turn;
        if (!turns) {
            int side = turn != 0 && -py[1] * turn <= 0 ? 1 : -1;
            return part(begin, end, px, py, side);
        }
        int middle = turn * Long.signum(4 * py[0] * py[2] - py[1] * py[1]) * turn * turn;
        return part(begin, middle, px, py, -1) + part(middle, end, px, py, 1);
    }

    private static int part(int from, int to, long[] px, long[] py, int side) {
        if (from <= 0 && to > 0) {
            return signAt(px, py, side) > 0 ? 1 : 0;
        }
        return to <= 0 && from > 0 && signAt(px, py, side) > 0 ? -1 : 0;
    }
}

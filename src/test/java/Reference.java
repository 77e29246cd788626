import java.util.ArrayList;
import java.util.List;
import java.util.NoSuchElementException;

/**
 * A second CornerClaims, written from the document in other ways than the program: exact fractions
 * for common points, counting for areas' points, windings for insides, and copies for undo.
 * Answers that are exceptions are told as numbers.
 */
final class Reference {
    static final long ILLEGAL_ARGUMENT = Long.MIN_VALUE + 1;
    static final long INDEX = Long.MIN_VALUE + 2;
    static final long NO_ELEMENT = Long.MIN_VALUE + 3;
    static final long ILLEGAL_STATE = Long.MIN_VALUE + 4;

    static final class Polygon {
        int owner;
        boolean closed;
        List<int[]> corners = new ArrayList<>();

        List<int[][]> sides() {
            List<int[][]> sides = new ArrayList<>();
            for (int k = 0; k + 1 < corners.size(); k++) {
                sides.add(new int[][] {corners.get(k), corners.get(k + 1)});
            }
            if (closed) {
                sides.add(new int[][] {corners.get(corners.size() - 1), corners.get(0)});
            }
            return sides;
        }

        Polygon copy() {
            Polygon copy = new Polygon();
            copy.owner = owner;
            copy.closed = closed;
            copy.corners.addAll(corners);
            return copy;
        }
    }

    static final class State {
        int width = 2;
        int height = 2;
        List<int[]> stones = new ArrayList<>();
        List<Polygon> polygons = new ArrayList<>();
        String score = "area+stones";

        State copy() {
            State copy = new State();
            copy.width = width;
            copy.height = height;
            copy.stones.addAll(stones);
            for (Polygon polygon : polygons) {
                copy.polygons.add(polygon.copy());
            }
            copy.score = score;
            return copy;
        }
    }

    private State state = new State();
    private final List<State> before = new ArrayList<>();
    private String buffer = "";
    private int errorOffset = -1;

    /** Expects the answer, or the very exception, that an answer of a Reference tells. */
    static void compare(String call, Due.Call made, long due) {
        if (due == ILLEGAL_ARGUMENT) {
            Due.thrown(call, IllegalArgumentException.class, made);
        } else if (due == INDEX) {
            Due.thrown(call, IndexOutOfBoundsException.class, made);
        } else if (due == NO_ELEMENT) {
            Due.thrown(call, NoSuchElementException.class, made);
        } else if (due == ILLEGAL_STATE) {
            Due.thrown(call, IllegalStateException.class, made);
        } else {
            Due.answer(call, made.answer(), due);
        }
    }

    private void remember() {
        before.add(state.copy());
        if (before.size() > 8) {
            before.remove(0);
        }
    }

    private boolean noPolygon(int p) {
        return p < 0 || p >= state.polygons.size();
    }

    private boolean noPoint(int x, int y) {
        return !(0 <= x && x <= state.width && 0 <= y && y <= state.height);
    }

    long append(int... words) {
        if (buffer.length() > 780) {
            return -1;
        }
        StringBuilder text = new StringBuilder(buffer);
        for (int word : words) {
            for (int k = 3; k >= 0; k--) {
                text.append((char) (word >>> 8 * k & 255));
            }
        }
        buffer = text.toString();
        return buffer.length();
    }

    long load(int length) {
        if (length < 0 || length > buffer.length()) {
            return ILLEGAL_ARGUMENT;
        }
        ReferenceText text = new ReferenceText(buffer.substring(0, length));
        buffer = "";
        text.read();
        errorOffset = text.errorOffset;
        if (text.error != 0) {
            return text.error;
        }
        remember();
        state = text.state;
        return state.polygons.size();
    }

    long errorOffset() {
        return errorOffset;
    }

    long count(int what) {
        int closed = 0;
        for (Polygon polygon : state.polygons) {
            closed += polygon.closed ? 1 : 0;
        }
        int claimed = 0;
        for (int[] stone : state.stones) {
            claimed += claim(state, stone) >= 0 ? 1 : 0;
        }
        int[] counts = {state.width, state.height, state.stones.size(), state.polygons.size(), closed,
            claimed};
        return what < 0 || what > 5 ? ILLEGAL_ARGUMENT : counts[what];
    }

    long stone(int stone, int what) {
        if (stone < 0 || stone >= state.stones.size()) {
            return NO_ELEMENT;
        }
        if (what < 0 || what > 3) {
            return ILLEGAL_ARGUMENT;
        }
        return what == 3 ? claim(state, state.stones.get(stone)) : state.stones.get(stone)[what];
    }

    long polygon(int p, int what) {
        if (noPolygon(p)) {
            return INDEX;
        }
        Polygon polygon = state.polygons.get(p);
        return what == 0 ? polygon.owner : what == 1 ? polygon.corners.size()
                : what == 2 ? (polygon.closed ? 1 : 0) : ILLEGAL_ARGUMENT;
    }

    long cornerAt(int p, int place) {
        if (noPolygon(p)) {
            return INDEX;
        }
        if (place < 0 || place >= state.polygons.get(p).corners.size()) {
            return NO_ELEMENT;
        }
        int[] corner = state.polygons.get(p).corners.get(place);
        return 100 * corner[0] + corner[1];
    }

    long reason(int p, int x, int y) {
        return noPolygon(p) ? INDEX : noPoint(x, y) ? ILLEGAL_ARGUMENT
                : cornerReason(state, state.polygons.get(p), new int[] {x, y});
    }

    long where(int p, int x, int y) {
        if (noPolygon(p)) {
            return INDEX;
        }
        if (noPoint(x, y)) {
            return ILLEGAL_ARGUMENT;
        }
        return state.polygons.get(p).closed ? situation(state.polygons.get(p), new int[] {x, y})
                : ILLEGAL_STATE;
    }

    /** area, border, inner, dents, parent and score, which have the same exceptions. */
    long told(String what, int p) {
        if (noPolygon(p)) {
            return INDEX;
        }
        Polygon polygon = state.polygons.get(p);
        if (!polygon.closed) {
            return ILLEGAL_STATE;
        }
        switch (what) {
            case "area":
                return areaOf(polygon);
            case "border":
                return pointsIn(state, polygon, 1);
            case "inner":
                return pointsIn(state, polygon, 2);
            case "dents":
                return dentsOf(polygon);
            case "parent":
                return parentOf(p);
            default:
                return scoreOf(p);
        }
    }

    long points(int player) {
        if (player < 0 || player > 3) {
            return ILLEGAL_ARGUMENT;
        }
        long sum = 0;
        for (int p = 0; p < state.polygons.size(); p++) {
            Polygon polygon = state.polygons.get(p);
            sum += polygon.closed && polygon.owner == player ? scoreOf(p) : 0;
        }
        return sum;
    }

    long leader() {
        int best = 3;
        for (int player = 2; player >= 0; player--) {
            best = points(player) >= points(best) ? player : best;
        }
        return best;
    }

    long begin(int player, int x, int y) {
        if (player < 0 || player > 3 || noPoint(x, y)) {
            return ILLEGAL_ARGUMENT;
        }
        if (state.polygons.size() == 6) {
            return ILLEGAL_STATE;
        }
        remember();
        if (occupied(state, new int[] {x, y})) {
            return -3;
        }
        Polygon polygon = new Polygon();
        polygon.owner = player;
        polygon.corners.add(new int[] {x, y});
        state.polygons.add(polygon);
        return state.polygons.size() - 1;
    }

    long corner(int p, int x, int y) {
        if (noPolygon(p)) {
            return INDEX;
        }
        if (noPoint(x, y)) {
            return ILLEGAL_ARGUMENT;
        }
        remember();
        Polygon polygon = state.polygons.get(p);
        int reason = cornerReason(state, polygon, new int[] {x, y});
        if (reason != 0) {
            return -reason;
        }
        polygon.corners.add(new int[] {x, y});
        return polygon.corners.size();
    }

    long close(int p) {
        if (noPolygon(p)) {
            return INDEX;
        }
        remember();
        int reason = closeReason(state, state.polygons.get(p));
        if (reason != 0) {
            return -reason;
        }
        state.polygons.get(p).closed = true;
        long claimed = 0;
        for (int[] stone : state.stones) {
            claimed += claim(state, stone) == p ? 1 : 0;
        }
        return claimed;
    }

    long bend(int p, int side, int x, int y) {
        if (noPolygon(p)) {
            return INDEX;
        }
        Polygon polygon = state.polygons.get(p);
        int size = polygon.corners.size();
        if (side < 0 || side >= size) {
            return NO_ELEMENT;
        }
        if (noPoint(x, y)) {
            return ILLEGAL_ARGUMENT;
        }
        remember();
        int[] point = {x, y};
        int reason = !polygon.closed ? 1 : size == 12 ? 2 : isStoneOrCorner(state, point) ? 3 : 0;
        if (reason == 0) {
            List<int[][]> sides = allSides(state, polygon);
            sides.addAll(polygon.sides());
            sides.remove(sides.size() - size + side);
            List<int[]> corners = allCorners(state);
            reason = lineReason(state, polygon.corners.get(side), point, corners, sides);
            if (reason == 0) {
                reason = lineReason(state, polygon.corners.get((side + 1) % size), point, corners, sides);
            }
        }
        if (reason != 0) {
            return -reason;
        }
        polygon.corners.add(side + 1, point);
        return areaOf(polygon);
    }

    long takeOut(int p, int place) {
        if (noPolygon(p)) {
            return INDEX;
        }
        Polygon polygon = state.polygons.get(p);
        int size = polygon.corners.size();
        if (place < 0 || place >= size) {
            return NO_ELEMENT;
        }
        remember();
        int reason = !polygon.closed ? 1 : size == 3 ? 6 : 0;
        if (reason == 0) {
            Polygon rest = new Polygon();
            for (int k = 1; k < size; k++) {
                rest.corners.add(polygon.corners.get((place + k) % size));
            }
            List<int[][]> sides = allSides(state, polygon);
            sides.addAll(rest.sides());
            List<int[]> corners = allCorners(state);
            corners.remove(polygon.corners.get(place));
            reason = lineReason(state, rest.corners.get(size - 2), rest.corners.get(0), corners, sides);
        }
        if (reason != 0) {
            return -reason;
        }
        polygon.corners.remove(place);
        return areaOf(polygon);
    }

    long remove(int p) {
        if (noPolygon(p)) {
            return INDEX;
        }
        remember();
        state.polygons.remove(p);
        return count(5);
    }

    long undo() {
        if (before.isEmpty()) {
            return -1;
        }
        state = before.remove(before.size() - 1);
        return before.size();
    }

    long checksum() {
        List<Long> numbers = new ArrayList<>();
        for (Polygon polygon : state.polygons) {
            numbers.add((long) polygon.owner);
            numbers.add(polygon.closed ? 1L : 0L);
            for (int[] corner : polygon.corners) {
                numbers.add(100L * corner[0] + corner[1]);
            }
        }
        for (int[] stone : state.stones) {
            numbers.add((long) claim(state, stone));
        }
        for (int player = 0; player < 4; player++) {
            numbers.add(points(player));
        }
        long sum = 0;
        for (long number : numbers) {
            sum = sum * 31 + number;
        }
        return sum;
    }

    // ---- refusals

    static List<int[]> allCorners(State state) {
        List<int[]> corners = new ArrayList<>();
        for (Polygon polygon : state.polygons) {
            corners.addAll(polygon.corners);
        }
        return corners;
    }

    static List<int[][]> allSides(State state, Polygon except) {
        List<int[][]> sides = new ArrayList<>();
        for (Polygon polygon : state.polygons) {
            if (polygon != except) {
                sides.addAll(polygon.sides());
            }
        }
        return sides;
    }

    static boolean isStoneOrCorner(State state, int[] point) {
        List<int[]> taken = allCorners(state);
        taken.addAll(state.stones);
        for (int[] other : taken) {
            if (same(other, point)) {
                return true;
            }
        }
        return false;
    }

    static boolean occupied(State state, int[] point) {
        for (int[][] side : allSides(state, null)) {
            if (isOn(side[0], side[1], point)) {
                return true;
            }
        }
        return isStoneOrCorner(state, point);
    }

    static int cornerReason(State state, Polygon polygon, int[] point) {
        return polygon.closed ? 1 : polygon.corners.size() == 12 ? 2
                : isStoneOrCorner(state, point) ? 3
                : lineReason(state, polygon.corners.get(polygon.corners.size() - 1), point,
                        allCorners(state), allSides(state, null));
    }

    static int closeReason(State state, Polygon polygon) {
        return polygon.closed ? 1 : polygon.corners.size() < 3 ? 6
                : lineReason(state, polygon.corners.get(polygon.corners.size() - 1),
                        polygon.corners.get(0), allCorners(state), allSides(state, null));
    }

    static int lineReason(State state, int[] a, int[] b, List<int[]> corners, List<int[][]> sides) {
        for (int[] stone : state.stones) {
            if (isOn(a, b, stone)) {
                return 4;
            }
        }
        for (int[] corner : corners) {
            if (!same(corner, a) && !same(corner, b) && isOn(a, b, corner)) {
                return 4;
            }
        }
        for (int[][] side : sides) {
            if (clash(a, b, side[0], side[1])) {
                return 5;
            }
        }
        return 0;
    }

    static boolean same(int[] a, int[] b) {
        return a[0] == b[0] && a[1] == b[1];
    }

    /** By the triangle's equation: on the line if the ways by the point are no detour in x and y. */
    static boolean isOn(int[] a, int[] b, int[] p) {
        int byX = Math.abs(p[0] - a[0]) + Math.abs(b[0] - p[0]);
        int byY = Math.abs(p[1] - a[1]) + Math.abs(b[1] - p[1]);
        return byX == Math.abs(b[0] - a[0]) && byY == Math.abs(b[1] - a[1])
                && (p[0] - a[0]) * (b[1] - p[1]) == (p[1] - a[1]) * (b[0] - p[0]);
    }

    /** Whether there is a common point that is not an end of both, by the parameters of the point. */
    static boolean clash(int[] a, int[] b, int[] c, int[] d) {
        int rx = b[0] - a[0];
        int ry = b[1] - a[1];
        int sx = d[0] - c[0];
        int sy = d[1] - c[1];
        int qx = c[0] - a[0];
        int qy = c[1] - a[1];
        int by = rx * sy - ry * sx;
        if (by != 0) {
            int t = qx * sy - qy * sx;
            int u = qx * ry - qy * rx;
            if (by < 0) {
                by = -by;
                t = -t;
                u = -u;
            }
            boolean common = 0 <= t && t <= by && 0 <= u && u <= by;
            boolean endOfBoth = (t == 0 || t == by) && (u == 0 || u == by);
            return common && !endOfBoth;
        }
        if (qx * ry != qy * rx) {
            return false;
        }
        // On one straight line: the parts in units of the line A to B, times its length squared.
        int length = rx * rx + ry * ry;
        int fromC = qx * rx + qy * ry;
        int fromD = (d[0] - a[0]) * rx + (d[1] - a[1]) * ry;
        int low = Math.max(0, Math.min(fromC, fromD));
        int high = Math.min(length, Math.max(fromC, fromD));
        return low < high;
    }

    // ---- areas

    static int areaOf(Polygon polygon) {
        // The trapezes under the sides.
        int sum = 0;
        for (int[][] side : polygon.sides()) {
            sum += (side[1][0] - side[0][0]) * (side[1][1] + side[0][1]);
        }
        return Math.abs(sum);
    }

    /** By the quadrants in which the corners lie as seen from the point: four quarters are a turn. */
    static int situation(Polygon polygon, int[] p) {
        int turned = 0;
        for (int[][] side : polygon.sides()) {
            if (isOn(side[0], side[1], p)) {
                return 1;
            }
            int quarters = quadrant(side[1], p) - quadrant(side[0], p);
            if (Math.abs(quarters) == 3) {
                quarters = -quarters / 3;
            } else if (Math.abs(quarters) == 2) {
                int cross = (side[0][0] - p[0]) * (side[1][1] - p[1])
                        - (side[0][1] - p[1]) * (side[1][0] - p[0]);
                quarters = cross > 0 ? 2 : -2;
            }
            turned += quarters;
        }
        return turned == 0 ? 0 : 2;
    }

    private static int quadrant(int[] corner, int[] p) {
        int dx = corner[0] - p[0];
        int dy = corner[1] - p[1];
        return dx > 0 && dy >= 0 ? 0 : dx <= 0 && dy > 0 ? 1 : dx < 0 ? 2 : 3;
    }

    static int pointsIn(State state, Polygon polygon, int situation) {
        int sum = 0;
        for (int x = 0; x <= state.width; x++) {
            for (int y = 0; y <= state.height; y++) {
                sum += situation(polygon, new int[] {x, y}) == situation ? 1 : 0;
            }
        }
        return sum;
    }

    /** The lowest corner is no dent; a corner at which the way turns to the other side is one. */
    static int dentsOf(Polygon polygon) {
        int sum = 0;
        int size = polygon.corners.size();
        int sense = 0;
        int[] lowest = null;
        for (int k = 0; k < size; k++) {
            int[] here = polygon.corners.get(k);
            if (lowest == null || here[1] < lowest[1] || here[1] == lowest[1] && here[0] < lowest[0]) {
                lowest = here;
                sense = turnAt(polygon, k);
            }
        }
        for (int k = 0; k < size; k++) {
            sum += turnAt(polygon, k) == -sense && sense != 0 ? 1 : 0;
        }
        return sum;
    }

    private static int turnAt(Polygon polygon, int k) {
        int size = polygon.corners.size();
        int[] a = polygon.corners.get((k + size - 1) % size);
        int[] b = polygon.corners.get(k);
        int[] c = polygon.corners.get((k + 1) % size);
        return Integer.signum((b[0] - a[0]) * (c[1] - b[1]) - (b[1] - a[1]) * (c[0] - b[0]));
    }

    static int claim(State state, int[] stone) {
        int best = -1;
        for (int p = 0; p < state.polygons.size(); p++) {
            Polygon polygon = state.polygons.get(p);
            if (polygon.closed && situation(polygon, stone) == 2
                    && (best < 0 || areaOf(polygon) < areaOf(state.polygons.get(best)))) {
                best = p;
            }
        }
        return best;
    }

    private long parentOf(int p) {
        long best = -1;
        Polygon child = state.polygons.get(p);
        for (int q = 0; q < state.polygons.size(); q++) {
            Polygon polygon = state.polygons.get(q);
            boolean contains = q != p && polygon.closed;
            for (int[] corner : child.corners) {
                contains = contains && situation(polygon, corner) == 2;
            }
            if (contains && (best < 0 || areaOf(polygon) < areaOf(state.polygons.get((int) best)))) {
                best = q;
            }
        }
        return best;
    }

    private long scoreOf(int p) {
        Polygon polygon = state.polygons.get(p);
        long stones = 0;
        for (int[] stone : state.stones) {
            stones += claim(state, stone) == p ? stone[2] : 0;
        }
        String score = state.score
                .replace("stones", "" + stones)
                .replace("area", "" + areaOf(polygon))
                .replace("corners", "" + polygon.corners.size())
                .replace("dents", "" + dentsOf(polygon));
        if (score.contains("inner")) {
            score = score.replace("inner", "" + pointsIn(state, polygon, 2));
        }
        long value = new Sum(score.replace(" ", "")).value();
        return Math.max(-99999, Math.min(99999, value));
    }

    /** Evaluates a sum without spaces, from its text. */
    private static final class Sum {
        private final String text;
        private int at = 0;

        Sum(String text) {
            this.text = text + ";";
        }

        long value() {
            long left = term();
            while (text.charAt(at) == '+' || text.charAt(at) == '-') {
                char sign = text.charAt(at++);
                long right = term();
                left = limited(sign == '+' ? left + right : left - right);
            }
            return left;
        }

        private long term() {
            long left = factor();
            while (text.charAt(at) == '*' || text.charAt(at) == '/') {
                char sign = text.charAt(at++);
                long right = factor();
                left = limited(sign == '*' ? left * right : right == 0 ? 0 : left / right);
            }
            return left;
        }

        private long factor() {
            long value = 0;
            if (text.charAt(at) == '(') {
                at++;
                value = value();
                at++;
                return value;
            }
            while (Character.isDigit(text.charAt(at))) {
                value = 10 * value + text.charAt(at++) - '0';
            }
            return value;
        }

        private static long limited(long value) {
            return value < -1000000 ? -1000000 : value > 1000000 ? 1000000 : value;
        }
    }
}

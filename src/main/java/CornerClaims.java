import java.util.Arrays;
import java.util.NoSuchElementException;

/**
 * Polygons on a field of points: they grow corner by corner, their sides must not meet, and closed
 * ones claim the stones inside of them.
 */
public final class CornerClaims {
    public static final int SYNTAX_ERROR = -2;
    public static final int OUT_OF_RANGE = -3;
    public static final int REFUSED = -4;
    public static final int TOO_MANY = -5;
    public static final int TOO_DEEP = -6;

    private static final int NONE = -1;
    private static final int MAX_BYTES = 800;
    private static final int BYTES_OF_APPEND = 20;
    private static final int MIN_EXTENT = 2;
    private static final int MAX_EXTENT = 30;
    private static final int MAX_STONES = 20;
    private static final int MAX_STONE_VALUE = 99;
    private static final int MAX_POLYGONS = 6;
    private static final int MAX_CORNERS = 12;
    private static final int MIN_CLOSED_CORNERS = 3;
    private static final int LAST_PLAYER = 3;
    private static final int MAX_CHANGES = 8;

    private static final int WRONG_STATE = 1;
    private static final int FULL = 2;
    private static final int TAKEN = 3;
    private static final int BLOCKED = 4;
    private static final int CROSSED = 5;
    private static final int TOO_FEW = 6;

    private static final int OUTSIDE = 0;
    private static final int ON_BORDER = 1;
    private static final int INSIDE = 2;

    // A score is kept as code for a stack: a number from 0 on stands for itself, these for the rest.
    private static final int AREA = -1;
    private static final int STONES = -2;
    private static final int CORNERS = -3;
    private static final int DENTS = -4;
    private static final int INNER = -5;
    private static final int ADD = -6;
    private static final int SUBTRACT = -7;
    private static final int MULTIPLY = -8;
    private static final int DIVIDE = -9;
    private static final int[] PLAIN_SCORE = {AREA, STONES, ADD};

    private final byte[] buffer = new byte[MAX_BYTES];
    private final Board board = new Board();
    private final Board draft = new Board();
    private final Judge judge = new Judge(board);
    private final Setup setup = new Setup(buffer, draft, new Judge(draft));
    private final Scorer scorer = new Scorer(board);
    private final History history = new History();
    private int bufferLength = 0;
    private int latestErrorOffset = NONE;

    public CornerClaims() {
    }

    public int append(int w0, int w1, int w2, int w3, int w4) {
        if (bufferLength + BYTES_OF_APPEND > MAX_BYTES) {
            return -1;
        }
        putWord(w0);
        putWord(w1);
        putWord(w2);
        putWord(w3);
        putWord(w4);
        return bufferLength;
    }

    public int load(int length) throws IllegalArgumentException {
        if (length < 0 || length > bufferLength) {
            throw new IllegalArgumentException("the buffer is shorter, or length is negative");
        }
        bufferLength = 0;
        boolean isRead = setup.read(length);
        latestErrorOffset = setup.errorAt;
        if (!isRead) {
            return setup.error;
        }
        history.save(board);
        board.copyFrom(draft);
        board.settleClaims();
        return board.shapeCount;
    }

    public int errorOffset() {
        return latestErrorOffset;
    }

    public int count(int what) throws IllegalArgumentException {
        switch (what) {
            case 0:
                return board.width;
            case 1:
                return board.height;
            case 2:
                return board.stoneCount;
            case 3:
                return board.shapeCount;
            case 4:
                return board.closedShapes();
            case 5:
                return board.claimedStones();
            default:
                throw new IllegalArgumentException("there is no such count");
        }
    }

    public int stone(int stone, int what) throws NoSuchElementException, IllegalArgumentException {
        if (stone < 0 || stone >= board.stoneCount) {
            throw new NoSuchElementException("there is no such stone");
        }
        switch (what) {
            case 0:
                return board.stoneX(stone);
            case 1:
                return board.stoneY(stone);
            case 2:
                return board.stoneValue(stone);
            case 3:
                return board.claimOf(stone);
            default:
                throw new IllegalArgumentException("nothing else is told of a stone");
        }
    }

    public int polygon(int polygon, int what)
            throws IndexOutOfBoundsException, IllegalArgumentException {
        requirePolygon(polygon);
        Shape shape = board.shapeAt(polygon);
        switch (what) {
            case 0:
                return shape.owner;
            case 1:
                return shape.size;
            case 2:
                return shape.closed ? 1 : 0;
            default:
                throw new IllegalArgumentException("nothing else is told of a polygon");
        }
    }

    public int cornerAt(int polygon, int place)
            throws IndexOutOfBoundsException, NoSuchElementException {
        requirePolygon(polygon);
        requirePlace(polygon, place);
        return board.shapeAt(polygon).codeOfCorner(place);
    }

    public int reason(int polygon, int x, int y)
            throws IndexOutOfBoundsException, IllegalArgumentException {
        requirePolygon(polygon);
        requirePoint(x, y);
        return judge.reasonOfCorner(polygon, x, y);
    }

    public int where(int polygon, int x, int y)
            throws IndexOutOfBoundsException, IllegalArgumentException, IllegalStateException {
        requirePolygon(polygon);
        requirePoint(x, y);
        requireClosed(polygon);
        return board.shapeAt(polygon).situationOf(x, y);
    }

    public int area(int polygon) throws IndexOutOfBoundsException, IllegalStateException {
        requirePolygon(polygon);
        requireClosed(polygon);
        return board.shapeAt(polygon).doubledArea();
    }

    public int border(int polygon) throws IndexOutOfBoundsException, IllegalStateException {
        requirePolygon(polygon);
        requireClosed(polygon);
        return board.shapeAt(polygon).borderPoints();
    }

    public int inner(int polygon) throws IndexOutOfBoundsException, IllegalStateException {
        requirePolygon(polygon);
        requireClosed(polygon);
        return board.shapeAt(polygon).innerPoints();
    }

    public int dents(int polygon) throws IndexOutOfBoundsException, IllegalStateException {
        requirePolygon(polygon);
        requireClosed(polygon);
        return board.shapeAt(polygon).dentCount();
    }

    public int parent(int polygon) throws IndexOutOfBoundsException, IllegalStateException {
        requirePolygon(polygon);
        requireClosed(polygon);
        // Sides do not meet, so a polygon is inside of another one as soon as one corner of it is.
        Shape shape = board.shapeAt(polygon);
        return board.smallestAround(shape.xAt(0), shape.yAt(0));
    }

    public int score(int polygon) throws IndexOutOfBoundsException, IllegalStateException {
        requirePolygon(polygon);
        requireClosed(polygon);
        return scorer.scoreOf(polygon);
    }

    public int points(int player) throws IllegalArgumentException {
        if (!isPlayer(player)) {
            throw new IllegalArgumentException("there is no such player");
        }
        return scorer.sumOf(player);
    }

    public int leader() {
        int best = 0;
        int most = scorer.sumOf(0);
        for (int player = 1; player <= LAST_PLAYER; player++) {
            int sum = scorer.sumOf(player);
            if (sum > most) {
                best = player;
                most = sum;
            }
        }
        return best;
    }

    public int begin(int player, int x, int y)
            throws IllegalArgumentException, IllegalStateException {
        if (!isPlayer(player)) {
            throw new IllegalArgumentException("there is no such player");
        }
        requirePoint(x, y);
        if (board.shapeCount >= MAX_POLYGONS) {
            throw new IllegalStateException("there are as many polygons as there may be");
        }
        history.save(board);
        if (board.isOccupied(x, y)) {
            return -TAKEN;
        }
        return board.startShape(player, x, y);
    }

    public int corner(int polygon, int x, int y)
            throws IndexOutOfBoundsException, IllegalArgumentException {
        requirePolygon(polygon);
        requirePoint(x, y);
        history.save(board);
        int refusal = judge.reasonOfCorner(polygon, x, y);
        if (refusal != 0) {
            return -refusal;
        }
        Shape shape = board.shapeAt(polygon);
        shape.insert(shape.size, x, y);
        return shape.size;
    }

    public int close(int polygon) throws IndexOutOfBoundsException {
        requirePolygon(polygon);
        history.save(board);
        int refusal = judge.reasonOfClosing(polygon);
        if (refusal != 0) {
            return -refusal;
        }
        board.shapeAt(polygon).closed = true;
        board.settleClaims();
        return board.stonesOf(polygon);
    }

    public int bend(int polygon, int side, int x, int y)
            throws IndexOutOfBoundsException, NoSuchElementException, IllegalArgumentException {
        requirePolygon(polygon);
        requirePlace(polygon, side);
        requirePoint(x, y);
        history.save(board);
        int refusal = judge.reasonOfBend(polygon, side, x, y);
        if (refusal != 0) {
            return -refusal;
        }
        Shape shape = board.shapeAt(polygon);
        shape.insert(side + 1, x, y);
        board.settleClaims();
        return shape.doubledArea();
    }

    public int takeOut(int polygon, int place)
            throws IndexOutOfBoundsException, NoSuchElementException {
        requirePolygon(polygon);
        requirePlace(polygon, place);
        history.save(board);
        int refusal = judge.reasonOfTakingOut(polygon, place);
        if (refusal != 0) {
            return -refusal;
        }
        Shape shape = board.shapeAt(polygon);
        shape.dropCorner(place);
        board.settleClaims();
        return shape.doubledArea();
    }

    public int remove(int polygon) throws IndexOutOfBoundsException {
        requirePolygon(polygon);
        history.save(board);
        board.dropShape(polygon);
        board.settleClaims();
        return board.claimedStones();
    }

    public int undo() {
        return history.restore(board);
    }

    public long checksum() {
        long sum = 0;
        for (int polygon = 0; polygon < board.shapeCount; polygon++) {
            Shape shape = board.shapeAt(polygon);
            sum = 31 * sum + shape.owner;
            sum = 31 * sum + (shape.closed ? 1 : 0);
            for (int place = 0; place < shape.size; place++) {
                sum = 31 * sum + shape.codeOfCorner(place);
            }
        }
        for (int stone = 0; stone < board.stoneCount; stone++) {
            sum = 31 * sum + board.claimOf(stone);
        }
        for (int player = 0; player <= LAST_PLAYER; player++) {
            sum = 31 * sum + scorer.sumOf(player);
        }
        return sum;
    }

    private void putWord(int word) {
        for (int shift = 24; shift >= 0; shift -= 8) {
            if (bufferLength < buffer.length) {
                buffer[bufferLength] = (byte) (word >> shift);
                bufferLength++;
            }
        }
    }

    private void requirePolygon(int polygon) {
        if (polygon < 0 || polygon >= board.shapeCount) {
            throw new IndexOutOfBoundsException("there is no such polygon");
        }
    }

    private void requirePlace(int polygon, int place) {
        if (place < 0 || place >= board.shapeAt(polygon).size) {
            throw new NoSuchElementException("the polygon has no such corner or side");
        }
    }

    private void requirePoint(int x, int y) {
        if (x < 0 || x > board.width || y < 0 || y > board.height) {
            throw new IllegalArgumentException("the point is not one of the field");
        }
    }

    private void requireClosed(int polygon) {
        if (!board.shapeAt(polygon).closed) {
            throw new IllegalStateException("the polygon is open");
        }
    }

    private static boolean isPlayer(int player) {
        return player >= 0 && player <= LAST_PLAYER;
    }

    /** What is common to lines and sides. */
    private static final class Geometry {
        /** Above 0 if P is to the left of the way from A to B, below 0 to the right, 0 on its line. */
        static int turn(int ax, int ay, int bx, int by, int px, int py) {
            return (bx - ax) * (py - ay) - (by - ay) * (px - ax);
        }

        static boolean isOnSegment(int ax, int ay, int bx, int by, int px, int py) {
            // Seen from a point between the ends, or from an end, they are not on one side.
            boolean isBetween = (ax - px) * (bx - px) + (ay - py) * (by - py) <= 0;
            return isBetween && (bx - ax) * (py - ay) == (by - ay) * (px - ax);
        }

        /** The number of points of the field on a line of these extents, without one of its ends. */
        static int steps(int width, int height) {
            int divisor = Math.abs(width);
            int rest = Math.abs(height);
            for (int step = 0; step <= MAX_EXTENT && rest != 0; step++) {
                int smaller = divisor % rest;
                divisor = rest;
                rest = smaller;
            }
            return divisor;
        }
    }

    /** A polygon. */
    private static final class Shape {
        private final int[] xs = new int[MAX_CORNERS];
        private final int[] ys = new int[MAX_CORNERS];
        private int owner = 0;
        private int size = 0;
        private boolean closed = false;

        void start(int player, int x, int y) {
            owner = player;
            size = 0;
            closed = false;
            insert(0, x, y);
        }

        void copyFrom(Shape other) {
            System.arraycopy(other.xs, 0, xs, 0, MAX_CORNERS);
            System.arraycopy(other.ys, 0, ys, 0, MAX_CORNERS);
            owner = other.owner;
            size = other.size;
            closed = other.closed;
        }

        int xAt(int place) {
            return place >= 0 && place < xs.length ? xs[place] : 0;
        }

        int yAt(int place) {
            return place >= 0 && place < ys.length ? ys[place] : 0;
        }

        int codeOfCorner(int place) {
            return 100 * xAt(place) + yAt(place);
        }

        int placeBehind(int place) {
            return place + 1 < size ? place + 1 : 0;
        }

        int placeBefore(int place) {
            return place > 0 ? place - 1 : size - 1;
        }

        int sideCount() {
            return closed ? size : size - 1;
        }

        void insert(int place, int x, int y) {
            if (size >= MAX_CORNERS || place < 0 || place > size) {
                return;
            }
            for (int k = size; k > place; k--) {
                xs[k] = xs[k - 1];
                ys[k] = ys[k - 1];
            }
            xs[place] = x;
            ys[place] = y;
            size++;
        }

        void dropCorner(int place) {
            if (place < 0 || place >= size) {
                return;
            }
            for (int k = place + 1; k < size && k < MAX_CORNERS; k++) {
                xs[k - 1] = xs[k];
                ys[k - 1] = ys[k];
            }
            size--;
        }

        boolean hasCorner(int x, int y) {
            for (int place = 0; place < size; place++) {
                if (xAt(place) == x && yAt(place) == y) {
                    return true;
                }
            }
            return false;
        }

        boolean hasOnSide(int x, int y) {
            for (int side = 0; side < sideCount(); side++) {
                int next = placeBehind(side);
                if (Geometry.isOnSegment(
                        xAt(side), yAt(side), xAt(next), yAt(next), x, y)) {
                    return true;
                }
            }
            return false;
        }

        /** Twice the area, above 0 if the corners go round with the inside at their left. */
        int turnedArea() {
            int sum = 0;
            for (int place = 0; place < size; place++) {
                int next = placeBehind(place);
                sum += xAt(place) * yAt(next) - xAt(next) * yAt(place);
            }
            return sum;
        }

        int doubledArea() {
            return Math.abs(turnedArea());
        }

        int borderPoints() {
            int sum = 0;
            for (int place = 0; place < size; place++) {
                int next = placeBehind(place);
                sum += Geometry.steps(xAt(next) - xAt(place), yAt(next) - yAt(place));
            }
            return sum;
        }

        int innerPoints() {
            // Pick's theorem: the sides meet at corners only, and all corners are points of the field.
            return (doubledArea() - borderPoints() + 2) / 2;
        }

        int dentCount() {
            boolean insideAtLeft = turnedArea() > 0;
            int sum = 0;
            for (int place = 0; place < size; place++) {
                int before = placeBefore(place);
                int next = placeBehind(place);
                int turn = Geometry.turn(xAt(before), yAt(before), xAt(place), yAt(place),
                        xAt(next), yAt(next));
                if (insideAtLeft ? turn < 0 : turn > 0) {
                    sum++;
                }
            }
            return sum;
        }

        int situationOf(int x, int y) {
            if (hasOnSide(x, y)) {
                return ON_BORDER;
            }
            boolean inside = false;
            for (int place = 0; place < size; place++) {
                if (isRightOf(x, y, place)) {
                    inside = !inside;
                }
            }
            return inside ? INSIDE : OUTSIDE;
        }

        /** Whether a ray from the point, in the direction of growing x, crosses the side. */
        private boolean isRightOf(int x, int y, int side) {
            int next = placeBehind(side);
            boolean startsAbove = yAt(side) > y;
            boolean endsAbove = yAt(next) > y;
            if (startsAbove == endsAbove) {
                return false;
            }
            int turn = Geometry.turn(xAt(side), yAt(side), xAt(next), yAt(next), x, y);
            return endsAbove ? turn > 0 : turn < 0;
        }
    }

    /** The data that a setup text gives and that changes change. */
    private static final class Board {
        private final int[] stoneXs = new int[MAX_STONES];
        private final int[] stoneYs = new int[MAX_STONES];
        private final int[] stoneValues = new int[MAX_STONES];
        private final int[] claims = new int[MAX_STONES];
        private final Shape[] shapes = new Shape[MAX_POLYGONS];
        private int width;
        private int height;
        private int stoneCount;
        private int shapeCount;
        private int[] scoreCode;

        Board() {
            for (int k = 0; k < MAX_POLYGONS; k++) {
                shapes[k] = new Shape();
            }
            width = MIN_EXTENT;
            height = MIN_EXTENT;
            stoneCount = 0;
            shapeCount = 0;
            scoreCode = PLAIN_SCORE;
        }

        void empty(int newWidth, int newHeight) {
            width = newWidth;
            height = newHeight;
            stoneCount = 0;
            shapeCount = 0;
            scoreCode = PLAIN_SCORE;
        }

        void copyFrom(Board other) {
            System.arraycopy(other.stoneXs, 0, stoneXs, 0, MAX_STONES);
            System.arraycopy(other.stoneYs, 0, stoneYs, 0, MAX_STONES);
            System.arraycopy(other.stoneValues, 0, stoneValues, 0, MAX_STONES);
            System.arraycopy(other.claims, 0, claims, 0, MAX_STONES);
            for (int k = 0; k < other.shapeCount; k++) {
                shapeAt(k).copyFrom(other.shapeAt(k));
            }
            width = other.width;
            height = other.height;
            stoneCount = other.stoneCount;
            shapeCount = other.shapeCount;
            // The code is never written again once it is here, so boards may share it.
            scoreCode = other.scoreCode;
        }

        Shape shapeAt(int polygon) {
            return shapes[polygon >= 0 && polygon < MAX_POLYGONS ? polygon : 0];
        }

        int startShape(int player, int x, int y) {
            if (shapeCount >= MAX_POLYGONS) {
                return NONE;
            }
            shapeAt(shapeCount).start(player, x, y);
            shapeCount++;
            return shapeCount - 1;
        }

        void dropShape(int polygon) {
            if (polygon < 0 || polygon >= shapeCount) {
                return;
            }
            for (int k = polygon + 1; k < shapeCount; k++) {
                shapeAt(k - 1).copyFrom(shapeAt(k));
            }
            shapeCount--;
        }

        void addStone(int x, int y, int value) {
            if (stoneCount >= 0 && stoneCount < MAX_STONES) {
                stoneXs[stoneCount] = x;
                stoneYs[stoneCount] = y;
                stoneValues[stoneCount] = value;
                stoneCount++;
            }
        }

        int stoneX(int stone) {
            return stone >= 0 && stone < MAX_STONES ? stoneXs[stone] : 0;
        }

        int stoneY(int stone) {
            return stone >= 0 && stone < MAX_STONES ? stoneYs[stone] : 0;
        }

        int stoneValue(int stone) {
            return stone >= 0 && stone < MAX_STONES ? stoneValues[stone] : 0;
        }

        int claimOf(int stone) {
            return stone >= 0 && stone < MAX_STONES ? claims[stone] : NONE;
        }

        /** To be called whenever stones or closed polygons have changed. */
        void settleClaims() {
            for (int stone = 0; stone < stoneCount && stone < MAX_STONES; stone++) {
                claims[stone] = smallestAround(stoneXs[stone], stoneYs[stone]);
            }
        }

        /** The closed polygon with the smallest area inside of which the point is. */
        int smallestAround(int x, int y) {
            int smallest = NONE;
            int smallestArea = 0;
            for (int k = 0; k < shapeCount; k++) {
                Shape shape = shapeAt(k);
                if (shape.closed && shape.situationOf(x, y) == INSIDE) {
                    int area = shape.doubledArea();
                    if (smallest == NONE || area < smallestArea) {
                        smallest = k;
                        smallestArea = area;
                    }
                }
            }
            return smallest;
        }

        int claimedStones() {
            int sum = 0;
            for (int stone = 0; stone < stoneCount; stone++) {
                if (claimOf(stone) != NONE) {
                    sum++;
                }
            }
            return sum;
        }

        int stonesOf(int polygon) {
            int sum = 0;
            for (int stone = 0; stone < stoneCount; stone++) {
                if (claimOf(stone) == polygon) {
                    sum++;
                }
            }
            return sum;
        }

        int valueOfStonesOf(int polygon) {
            int sum = 0;
            for (int stone = 0; stone < stoneCount; stone++) {
                if (claimOf(stone) == polygon) {
                    sum += stoneValue(stone);
                }
            }
            return sum;
        }

        int closedShapes() {
            int sum = 0;
            for (int k = 0; k < shapeCount; k++) {
                if (shapeAt(k).closed) {
                    sum++;
                }
            }
            return sum;
        }

        boolean isStoneOrCorner(int x, int y) {
            for (int stone = 0; stone < stoneCount; stone++) {
                if (stoneX(stone) == x && stoneY(stone) == y) {
                    return true;
                }
            }
            for (int k = 0; k < shapeCount; k++) {
                if (shapeAt(k).hasCorner(x, y)) {
                    return true;
                }
            }
            return false;
        }

        /** Whether the point is a stone or a corner, or is on a side. */
        boolean isOccupied(int x, int y) {
            if (isStoneOrCorner(x, y)) {
                return true;
            }
            for (int k = 0; k < shapeCount; k++) {
                if (shapeAt(k).hasOnSide(x, y)) {
                    return true;
                }
            }
            return false;
        }
    }

    /** A line from A to B that is to be drawn, and what goes at the same time. */
    private static final class Line {
        private int ax = 0;
        private int ay = 0;
        private int bx = 0;
        private int by = 0;
        private int losingPolygon = NONE;
        private int lostCorner = NONE;
        private int lostSide = NONE;
        private int otherLostSide = NONE;

        void draw(int fromX, int fromY, int toX, int toY) {
            ax = fromX;
            ay = fromY;
            bx = toX;
            by = toY;
        }

        void loseNothing() {
            losingPolygon = NONE;
        }

        void lose(int polygon, int corner, int side, int otherSide) {
            losingPolygon = polygon;
            lostCorner = corner;
            lostSide = side;
            otherLostSide = otherSide;
        }

        boolean losesCorner(int polygon, int place) {
            return polygon == losingPolygon && place == lostCorner;
        }

        boolean losesSide(int polygon, int side) {
            return polygon == losingPolygon && (side == lostSide || side == otherLostSide);
        }

        boolean endsAt(int x, int y) {
            return x == ax && y == ay || x == bx && y == by;
        }

        boolean holds(int x, int y) {
            return Geometry.isOnSegment(ax, ay, bx, by, x, y);
        }

        /** Whether a point of the side from C to D that is not an end of both is on the line. */
        boolean meets(int cx, int cy, int dx, int dy) {
            if (endsAt(cx, cy)) {
                return goesAlong(cx, cy, dx, dy);
            }
            if (endsAt(dx, dy)) {
                return goesAlong(dx, dy, cx, cy);
            }
            boolean apartInX = Math.max(ax, bx) < Math.min(cx, dx)
                    || Math.max(cx, dx) < Math.min(ax, bx);
            boolean apartInY = Math.max(ay, by) < Math.min(cy, dy)
                    || Math.max(cy, dy) < Math.min(ay, by);
            if (apartInX || apartInY) {
                return false;
            }
            int c = Geometry.turn(ax, ay, bx, by, cx, cy);
            int d = Geometry.turn(ax, ay, bx, by, dx, dy);
            int a = Geometry.turn(cx, cy, dx, dy, ax, ay);
            int b = Geometry.turn(cx, cy, dx, dy, bx, by);
            return c * d <= 0 && a * b <= 0;
        }

        /** Whether the line goes from its end S in the direction in which O is. */
        private boolean goesAlong(int sx, int sy, int ox, int oy) {
            boolean fromA = sx == ax && sy == ay;
            int lineX = (fromA ? bx : ax) - sx;
            int lineY = (fromA ? by : ay) - sy;
            int sideX = ox - sx;
            int sideY = oy - sy;
            return lineX * sideY == lineY * sideX && lineX * sideX + lineY * sideY > 0;
        }
    }

    /** The reasons for which a board refuses what is to be done with a polygon of it; 0 for none. */
    private static final class Judge {
        private final Board board;
        private final Line line = new Line();

        Judge(Board judged) {
            board = judged;
        }

        int reasonOfCorner(int polygon, int x, int y) {
            Shape shape = board.shapeAt(polygon);
            if (shape.closed) {
                return WRONG_STATE;
            }
            if (shape.size >= MAX_CORNERS) {
                return FULL;
            }
            if (board.isStoneOrCorner(x, y)) {
                return TAKEN;
            }
            int last = shape.size - 1;
            line.loseNothing();
            line.draw(shape.xAt(last), shape.yAt(last), x, y);
            return reasonOfLine();
        }

        int reasonOfClosing(int polygon) {
            Shape shape = board.shapeAt(polygon);
            if (shape.closed) {
                return WRONG_STATE;
            }
            if (shape.size < MIN_CLOSED_CORNERS) {
                return TOO_FEW;
            }
            int last = shape.size - 1;
            line.loseNothing();
            line.draw(shape.xAt(last), shape.yAt(last), shape.xAt(0), shape.yAt(0));
            return reasonOfLine();
        }

        int reasonOfBend(int polygon, int side, int x, int y) {
            Shape shape = board.shapeAt(polygon);
            if (!shape.closed) {
                return WRONG_STATE;
            }
            if (shape.size >= MAX_CORNERS) {
                return FULL;
            }
            if (board.isStoneOrCorner(x, y)) {
                return TAKEN;
            }
            line.lose(polygon, NONE, side, NONE);
            line.draw(shape.xAt(side), shape.yAt(side), x, y);
            int first = reasonOfLine();
            if (first != 0) {
                return first;
            }
            int next = shape.placeBehind(side);
            line.draw(shape.xAt(next), shape.yAt(next), x, y);
            return reasonOfLine();
        }

        int reasonOfTakingOut(int polygon, int place) {
            Shape shape = board.shapeAt(polygon);
            if (!shape.closed) {
                return WRONG_STATE;
            }
            if (shape.size <= MIN_CLOSED_CORNERS) {
                return TOO_FEW;
            }
            int before = shape.placeBefore(place);
            int next = shape.placeBehind(place);
            line.lose(polygon, place, before, place);
            line.draw(shape.xAt(before), shape.yAt(before), shape.xAt(next), shape.yAt(next));
            return reasonOfLine();
        }

        private int reasonOfLine() {
            if (isStoneOnLine() || isCornerOnLine()) {
                return BLOCKED;
            }
            return isSideMet() ? CROSSED : 0;
        }

        private boolean isStoneOnLine() {
            for (int stone = 0; stone < board.stoneCount; stone++) {
                if (line.holds(board.stoneX(stone), board.stoneY(stone))) {
                    return true;
                }
            }
            return false;
        }

        private boolean isCornerOnLine() {
            for (int k = 0; k < board.shapeCount; k++) {
                Shape shape = board.shapeAt(k);
                for (int place = 0; place < shape.size; place++) {
                    int x = shape.xAt(place);
                    int y = shape.yAt(place);
                    if (!line.losesCorner(k, place) && !line.endsAt(x, y) && line.holds(x, y)) {
                        return true;
                    }
                }
            }
            return false;
        }

        private boolean isSideMet() {
            for (int k = 0; k < board.shapeCount; k++) {
                Shape shape = board.shapeAt(k);
                for (int side = 0; side < shape.sideCount(); side++) {
                    int next = shape.placeBehind(side);
                    if (!line.losesSide(k, side) && line.meets(shape.xAt(side), shape.yAt(side),
                            shape.xAt(next), shape.yAt(next))) {
                        return true;
                    }
                }
            }
            return false;
        }
    }

    /** Reads a setup text into a board, up to the first error. */
    private static final class Setup {
        private static final int END = 0;
        private static final int UNKNOWN = 1;
        private static final int NUMBER = 2;
        private static final int FIELD = 3;
        private static final int STONE = 4;
        private static final int POLYGON = 5;
        private static final int SCORE = 6;
        private static final int MAX_DEPTH = 4;
        private static final int MAX_FACTOR = 9999;
        private static final int TOO_GREAT = 10000;

        private final byte[] text;
        private final Board board;
        private final Judge judge;
        // A token's kind: below 0 a word that is a factor, as in the code; of a sign its byte.
        private final int[] kinds = new int[MAX_BYTES + 1];
        private final int[] starts = new int[MAX_BYTES + 1];
        private final int[] values = new int[MAX_BYTES + 1];
        private final int[] code = new int[MAX_BYTES];
        private int tokenCount = 0;
        private int here = 0;
        private int number = 0;
        private int pointX = 0;
        private int codeLength = 0;
        private boolean hasScore = false;
        private int error = 0;
        private int errorAt = NONE;

        Setup(byte[] source, Board target, Judge targetJudge) {
            text = source;
            board = target;
            judge = targetJudge;
        }

        /** Whether there is no error. */
        boolean read(int length) {
            here = 0;
            hasScore = false;
            error = 0;
            errorAt = NONE;
            splitIntoTokens(length);
            boolean isGood = readField();
            for (int step = 0; step < MAX_BYTES && isGood && kindHere() != END; step++) {
                switch (kindHere()) {
                    case STONE:
                        isGood = readStone();
                        break;
                    case POLYGON:
                        isGood = readPolygon();
                        break;
                    case SCORE:
                        isGood = readScore();
                        break;
                    default:
                        isGood = fail(SYNTAX_ERROR);
                        break;
                }
            }
            return isGood;
        }

        private void splitIntoTokens(int length) {
            tokenCount = 0;
            int at = 0;
            for (int step = 0; step < MAX_BYTES && at < length; step++) {
                int sign = byteAt(at);
                int end = at + 1;
                if (isDigit(sign)) {
                    end = endOfRun(at, length, '0', '9');
                    addToken(NUMBER, at, valueOf(at, end));
                } else if (sign >= 'a' && sign <= 'z') {
                    end = endOfRun(at, length, 'a', 'z');
                    addToken(kindOfWord(at, end), at, 0);
                } else if (sign != ' ') {
                    addToken(kindOfSign(sign), at, 0);
                }
                at = end;
            }
            addToken(END, length, 0);
        }

        private int byteAt(int at) {
            return at >= 0 && at < text.length ? text[at] : 0;
        }

        private static boolean isDigit(int sign) {
            return sign >= '0' && sign <= '9';
        }

        private int endOfRun(int start, int length, char first, char last) {
            int end = start;
            for (int step = 0; step < MAX_BYTES && end < length; step++) {
                int sign = byteAt(end);
                if (sign < first || sign > last) {
                    return end;
                }
                end++;
            }
            return end;
        }

        private int valueOf(int start, int end) {
            int value = 0;
            for (int at = start; at < end; at++) {
                // All numbers from TOO_GREAT on are outside of every range.
                value = Math.min(10 * value + byteAt(at) - '0', TOO_GREAT);
            }
            return value;
        }

        private int kindOfWord(int start, int end) {
            return isWord("field", start, end) ? FIELD
                    : isWord("stone", start, end) ? STONE
                    : isWord("polygon", start, end) ? POLYGON
                    : isWord("score", start, end) ? SCORE
                    : isWord("area", start, end) ? AREA
                    : isWord("stones", start, end) ? STONES
                    : isWord("corners", start, end) ? CORNERS
                    : isWord("dents", start, end) ? DENTS
                    : isWord("inner", start, end) ? INNER
                    : UNKNOWN;
        }

        private boolean isWord(String word, int start, int end) {
            if (word.length() != end - start) {
                return false;
            }
            for (int k = 0; k < word.length(); k++) {
                if (byteAt(start + k) != word.charAt(k)) {
                    return false;
                }
            }
            return true;
        }

        private static int kindOfSign(int sign) {
            switch (sign) {
                case ';':
                case '+':
                case '-':
                case '*':
                case '/':
                case '(':
                case ')':
                    return sign;
                default:
                    return UNKNOWN;
            }
        }

        private void addToken(int kind, int start, int value) {
            if (tokenCount < kinds.length) {
                kinds[tokenCount] = kind;
                starts[tokenCount] = start;
                values[tokenCount] = value;
                tokenCount++;
            }
        }

        private int kindHere() {
            return here >= 0 && here < kinds.length ? kinds[here] : END;
        }

        private int valueHere() {
            return here >= 0 && here < values.length ? values[here] : 0;
        }

        private boolean fail(int kindOfError) {
            error = kindOfError;
            errorAt = here >= 0 && here < starts.length ? starts[here] : 0;
            return false;
        }

        private boolean take(int kind) {
            if (kindHere() != kind) {
                return fail(SYNTAX_ERROR);
            }
            here++;
            return true;
        }

        /** Leaves the token where it is, for what may be wrong with it beside its range. */
        private boolean seeNumber(int least, int greatest) {
            if (kindHere() != NUMBER) {
                return fail(SYNTAX_ERROR);
            }
            number = valueHere();
            return number >= least && number <= greatest || fail(OUT_OF_RANGE);
        }

        private boolean takeNumber(int least, int greatest) {
            boolean isGood = seeNumber(least, greatest);
            if (isGood) {
                here++;
            }
            return isGood;
        }

        /** Takes x of a point and sees y of it, which is the number then. */
        private boolean seePoint() {
            if (!takeNumber(0, board.width)) {
                return false;
            }
            pointX = number;
            return seeNumber(0, board.height);
        }

        private boolean readField() {
            if (!take(FIELD) || !takeNumber(MIN_EXTENT, MAX_EXTENT)) {
                return false;
            }
            int width = number;
            if (!takeNumber(MIN_EXTENT, MAX_EXTENT)) {
                return false;
            }
            board.empty(width, number);
            return take(';');
        }

        private boolean readStone() {
            if (board.stoneCount >= MAX_STONES) {
                return fail(TOO_MANY);
            }
            here++;
            if (!seePoint()) {
                return false;
            }
            int y = number;
            if (board.isOccupied(pointX, y)) {
                return fail(REFUSED);
            }
            here++;
            if (!takeNumber(1, MAX_STONE_VALUE)) {
                return false;
            }
            board.addStone(pointX, y, number);
            return take(';');
        }

        private boolean readPolygon() {
            if (board.shapeCount >= MAX_POLYGONS) {
                return fail(TOO_MANY);
            }
            here++;
            if (!takeNumber(0, LAST_PLAYER)) {
                return false;
            }
            int owner = number;
            if (!seePoint()) {
                return false;
            }
            if (board.isOccupied(pointX, number)) {
                return fail(REFUSED);
            }
            here++;
            int polygon = board.startShape(owner, pointX, number);
            Shape shape = board.shapeAt(polygon);
            for (int step = 0; step < MAX_BYTES && kindHere() == NUMBER; step++) {
                if (!seePoint()) {
                    return false;
                }
                if (judge.reasonOfCorner(polygon, pointX, number) != 0) {
                    return fail(REFUSED);
                }
                here++;
                shape.insert(shape.size, pointX, number);
            }
            if (kindHere() == ';' && judge.reasonOfClosing(polygon) != 0) {
                return fail(REFUSED);
            }
            shape.closed = true;
            return take(';');
        }

        private boolean readScore() {
            if (hasScore) {
                return fail(SYNTAX_ERROR);
            }
            hasScore = true;
            here++;
            codeLength = 0;
            if (!readSum(0)) {
                return false;
            }
            board.scoreCode = Arrays.copyOf(code, codeLength >= 0 ? codeLength : 0);
            return take(';');
        }

        private boolean readSum(int depth) {
            boolean isGood = readTerm(depth);
            for (int step = 0; step < MAX_BYTES && isGood; step++) {
                int sign = kindHere();
                if (sign != '+' && sign != '-') {
                    return true;
                }
                here++;
                isGood = readTerm(depth);
                addCode(sign == '+' ? ADD : SUBTRACT);
            }
            return isGood;
        }

        private boolean readTerm(int depth) {
            boolean isGood = readFactor(depth);
            for (int step = 0; step < MAX_BYTES && isGood; step++) {
                int sign = kindHere();
                if (sign != '*' && sign != '/') {
                    return true;
                }
                here++;
                isGood = readFactor(depth);
                addCode(sign == '*' ? MULTIPLY : DIVIDE);
            }
            return isGood;
        }

        private boolean readFactor(int depth) {
            int kind = kindHere();
            if (kind == '(') {
                if (depth >= MAX_DEPTH) {
                    return fail(TOO_DEEP);
                }
                here++;
                return readSum(depth + 1) && take(')');
            }
            if (kind < 0) {
                here++;
                addCode(kind);
                return true;
            }
            if (kind != NUMBER) {
                return fail(SYNTAX_ERROR);
            }
            number = valueHere();
            if (number > MAX_FACTOR) {
                return fail(OUT_OF_RANGE);
            }
            here++;
            addCode(number);
            return true;
        }

        private void addCode(int step) {
            if (codeLength >= 0 && codeLength < code.length) {
                code[codeLength] = step;
                codeLength++;
            }
        }
    }

    /** Tells the scores of a board's polygons. */
    private static final class Scorer {
        private static final int STACK_SIZE = 16;
        private static final int OPERATION_LIMIT = 1000000;
        private static final int SCORE_LIMIT = 99999;

        private final Board board;
        private final int[] figures = new int[-INNER];
        // Five sums stand one in another at most, each with two operands that wait.
        private final int[] stack = new int[STACK_SIZE];
        private int top = 0;

        Scorer(Board scored) {
            board = scored;
        }

        int sumOf(int player) {
            int sum = 0;
            for (int k = 0; k < board.shapeCount; k++) {
                Shape shape = board.shapeAt(k);
                if (shape.closed && shape.owner == player) {
                    sum += scoreOf(k);
                }
            }
            return sum;
        }

        int scoreOf(int polygon) {
            Shape shape = board.shapeAt(polygon);
            setFigure(AREA, shape.doubledArea());
            setFigure(STONES, board.valueOfStonesOf(polygon));
            setFigure(CORNERS, shape.size);
            setFigure(DENTS, shape.dentCount());
            setFigure(INNER, shape.innerPoints());
            top = 0;
            for (int k = 0; k < board.scoreCode.length; k++) {
                doStep(board.scoreCode[k]);
            }
            return limited(pop(), SCORE_LIMIT);
        }

        private void setFigure(int name, int value) {
            int place = -1 - name;
            if (place >= 0 && place < figures.length) {
                figures[place] = value;
            }
        }

        private void doStep(int step) {
            int place = -1 - step;
            if (place < 0) {
                push(step);
            } else if (place < figures.length) {
                push(figures[place]);
            } else {
                int right = pop();
                int left = pop();
                push(limited(resultOf(step, left, right), OPERATION_LIMIT));
            }
        }

        private static long resultOf(int operation, int left, int right) {
            switch (operation) {
                case ADD:
                    return (long) left + right;
                case SUBTRACT:
                    return (long) left - right;
                case MULTIPLY:
                    return (long) left * right;
                default:
                    return right == 0 ? 0 : left / right;
            }
        }

        private static int limited(long value, int limit) {
            return (int) Math.max(-limit, Math.min(limit, value));
        }

        private void push(int value) {
            if (top >= 0 && top < stack.length) {
                stack[top] = value;
                top++;
            }
        }

        private int pop() {
            if (top <= 0 || top > stack.length) {
                return 0;
            }
            top--;
            return stack[top];
        }
    }

    /** The boards as they were before the latest changes. */
    private static final class History {
        private final Board[] saved = new Board[MAX_CHANGES];
        private int next = 0;
        private int depth = 0;

        History() {
            for (int k = 0; k < MAX_CHANGES; k++) {
                saved[k] = new Board();
            }
        }

        void save(Board board) {
            if (next >= 0 && next < MAX_CHANGES) {
                saved[next].copyFrom(board);
            }
            next = next + 1 < MAX_CHANGES ? next + 1 : 0;
            depth = Math.min(depth + 1, MAX_CHANGES);
        }

        /** The number of changes that can still be undone; -1 if there was none to undo. */
        int restore(Board board) {
            if (depth == 0) {
                return -1;
            }
            next = next > 0 ? next - 1 : MAX_CHANGES - 1;
            if (next >= 0 && next < MAX_CHANGES) {
                board.copyFrom(saved[next]);
            }
            depth--;
            return depth;
        }
    }
}

import java.util.NoSuchElementException;

/** Every sentence "Throws .. if ..": at the last argument that is allowed, and at those beyond it. */
final class EdgesOfExceptionsTest {
    private static final String NO_POLYGON = "Throws `IndexOutOfBoundsException` if there is no such polygon";
    private static final String NO_POINT =
            "Throws `IllegalArgumentException` if the point is not one of the field";
    private static final String NO_WHAT = "Throws `IllegalArgumentException` if what is out of range";
    private static final String OPEN = "Throws `IllegalStateException` if it is open";
    private static final String NO_CORNER = "Throws `NoSuchElementException` if there is no such corner";
    private static final int FINE = 0;

    /** A method with one argument of it left open. */
    interface OfOne {
        int answer(CornerClaims claims, int argument);
    }

    /** A method of a polygon alone. */
    private static final OfOne[] FIGURES = {CornerClaims::area, CornerClaims::border, CornerClaims::inner,
        CornerClaims::dents, CornerClaims::parent, CornerClaims::score};

    public static void main(String[] args) {
        lengthsOfLoad();
        kinds();
        players();
        noSuchStone();
        noSuchPolygon();
        noSuchCorner();
        noPoint();
        openOnes();
        sixPolygons();
        Due.end();
    }

    /** Width 6, height 9; polygon 0 is closed, polygon 1 has two corners and is open; one stone. */
    private static CornerClaims small() {
        CornerClaims claims = Texts.loaded("field 6 9;stone 6 9 1;polygon 0 1 1 4 1 4 4 1 4;");
        Draw.open(claims, 3, 0, 8, 2, 8);
        return claims;
    }

    /** Every answer must be one, and every exception of the class, from the least argument on. */
    private static void range(String call, OfOne method, int least, int greatest, Class<?> due) {
        for (int k = least; k <= greatest; k++) {
            Due.answer(call + " with " + k + " throws nothing", noException(method, k), FINE);
        }
        for (int k : new int[] {least - 1, least - 2, greatest + 1, greatest + 2, least + 256, -65536,
            greatest + 65536, Integer.MIN_VALUE, Integer.MIN_VALUE + 1, Integer.MAX_VALUE}) {
            if (k < least || k > greatest) {
                Due.thrown(call + " with " + k, due, () -> method.answer(small(), k));
            }
        }
    }

    private static int noException(OfOne method, int argument) {
        try {
            method.answer(small(), argument);
            return FINE;
        } catch (RuntimeException e) {
            return 1;
        }
    }

    private static void lengthsOfLoad() {
        Due.sentence(3, "Throws `IllegalArgumentException` if length is negative or greater than the length"
                + " of the buffer;");
        range("load", CornerClaims::load, 0, 0, IllegalArgumentException.class);
        range("load of 40", (c, k) -> {
            c.append(0, 0, 0, 0, 0);
            c.append(0, 0, 0, 0, 0);
            return c.load(k);
        }, 0, 40, IllegalArgumentException.class);
    }

    private static void kinds() {
        Due.sentence(5, NO_WHAT);
        range("count", CornerClaims::count, 0, 5, IllegalArgumentException.class);
        Due.sentence(6, NO_WHAT);
        range("stone", (c, k) -> c.stone(0, k), 0, 3, IllegalArgumentException.class);
        Due.sentence(7, NO_WHAT);
        range("polygon", (c, k) -> c.polygon(0, k), 0, 2, IllegalArgumentException.class);
        range("polygon", (c, k) -> c.polygon(1, k), 0, 2, IllegalArgumentException.class);
    }

    private static void players() {
        Due.sentence(17, "Throws `IllegalArgumentException` if player is out of range");
        range("points", CornerClaims::points, 0, 3, IllegalArgumentException.class);
        Due.sentence(19, "Throws `IllegalArgumentException` if player is out of range, or the point is not"
                + " one of the field");
        range("begin, player", (c, k) -> c.begin(k, 6, 0), 0, 3, IllegalArgumentException.class);
        range("begin, x", (c, k) -> c.begin(0, k, 0), 0, 6, IllegalArgumentException.class);
        range("begin, y", (c, k) -> c.begin(3, 6, k), 0, 9, IllegalArgumentException.class);
    }

    private static void noSuchStone() {
        Due.sentence(6, "Throws `NoSuchElementException` if there is no such stone");
        range("stone", (c, k) -> c.stone(k, 2), 0, 0, NoSuchElementException.class);
        Due.thrown("stone(0, 2) without stones", NoSuchElementException.class,
                () -> new CornerClaims().stone(0, 2));
    }

    private static void noSuchPolygon() {
        Class<?> due = IndexOutOfBoundsException.class;
        Due.sentence(7, NO_POLYGON);
        range("polygon", (c, k) -> c.polygon(k, 0), 0, 1, due);
        Due.sentence(8, NO_POLYGON);
        range("cornerAt", (c, k) -> c.cornerAt(k, 0), 0, 1, due);
        Due.sentence(9, NO_POLYGON);
        range("reason", (c, k) -> c.reason(k, 0, 0), 0, 1, due);
        Due.sentence(10, NO_POLYGON);
        range("where", withoutOpenOne((c, k) -> c.where(k, 0, 0)), 0, 0, due);
        for (int figure = 0; figure < FIGURES.length; figure++) {
            Due.sentence(11 + figure, NO_POLYGON);
            range("the figure", withoutOpenOne(FIGURES[figure]), 0, 0, due);
        }
        Due.sentence(20, NO_POLYGON);
        range("corner", (c, k) -> c.corner(k, 6, 0), 0, 1, due);
        Due.sentence(21, NO_POLYGON);
        range("close", CornerClaims::close, 0, 1, due);
        Due.sentence(22, NO_POLYGON);
        range("bend", (c, k) -> c.bend(k, 0, 6, 0), 0, 1, due);
        Due.sentence(23, NO_POLYGON);
        range("takeOut", (c, k) -> c.takeOut(k, 0), 0, 1, due);
        Due.sentence(24, NO_POLYGON);
        range("remove", CornerClaims::remove, 0, 1, due);
    }

    private static OfOne withoutOpenOne(OfOne method) {
        return (claims, argument) -> {
            claims.remove(1);
            return method.answer(claims, argument);
        };
    }

    private static void noSuchCorner() {
        Class<?> due = NoSuchElementException.class;
        Due.sentence(8, NO_CORNER);
        range("cornerAt of four", (c, k) -> c.cornerAt(0, k), 0, 3, due);
        range("cornerAt of two", (c, k) -> c.cornerAt(1, k), 0, 1, due);
        Due.sentence(22, "Throws `NoSuchElementException` if side is negative or not less than the number of"
                + " corners of the polygon");
        range("bend of four", (c, k) -> c.bend(0, k, 6, 0), 0, 3, due);
        range("bend of two, open", (c, k) -> c.bend(1, k, 6, 0), 0, 1, due);
        Due.sentence(23, NO_CORNER);
        range("takeOut of four", (c, k) -> c.takeOut(0, k), 0, 3, due);
        range("takeOut of two, open", (c, k) -> c.takeOut(1, k), 0, 1, due);
    }

    private static void noPoint() {
        Class<?> due = IllegalArgumentException.class;
        for (int p = 0; p < 2; p++) {
            int polygon = p;
            Due.sentence(9, NO_POINT);
            range("reason, x", (c, k) -> c.reason(polygon, k, 9), 0, 6, due);
            range("reason, y", (c, k) -> c.reason(polygon, 6, k), 0, 9, due);
            Due.sentence(20, NO_POINT);
            range("corner, x", (c, k) -> c.corner(polygon, k, 9), 0, 6, due);
            range("corner, y", (c, k) -> c.corner(polygon, 6, k), 0, 9, due);
            Due.sentence(22, NO_POINT);
            range("bend, x", (c, k) -> c.bend(polygon, 1, k, 9), 0, 6, due);
            range("bend, y", (c, k) -> c.bend(polygon, 1, 6, k), 0, 9, due);
        }
        Due.sentence(10, NO_POINT);
        range("where, x", (c, k) -> c.where(0, k, 9), 0, 6, due);
        range("where, y", (c, k) -> c.where(0, 6, k), 0, 9, due);
    }

    private static void openOnes() {
        Due.sentence(10, "Throws `IllegalStateException` if the polygon is open");
        for (int corners = 1; corners <= 4; corners++) {
            CornerClaims claims = open(corners);
            Due.thrown("where of " + corners + " corners", IllegalStateException.class,
                    () -> claims.where(0, 0, 0));
            if (corners >= 3) {
                claims.close(0);
                Due.answer("where then", claims.where(0, 0, 0), 0);
                claims.undo();
                Due.thrown("where after undo", IllegalStateException.class, () -> claims.where(0, 0, 0));
            }
        }
        for (int figure = 0; figure < FIGURES.length; figure++) {
            Due.sentence(11 + figure, OPEN);
            for (int corners = 1; corners <= 4; corners++) {
                OfOne method = FIGURES[figure];
                CornerClaims claims = open(corners);
                Due.thrown("of " + corners + " corners", IllegalStateException.class,
                        () -> method.answer(claims, 0));
                if (corners >= 3) {
                    claims.close(0);
                    int[] of3 = {9, 9, 1, 0, -1, 9};
                    int[] of4 = {18, 12, 4, 0, -1, 18};
                    Due.answer("of " + corners + " corners then", method.answer(claims, 0),
                            corners == 3 ? of3[figure] : of4[figure]);
                    claims.undo();
                    Due.thrown("of " + corners + " corners after undo", IllegalStateException.class,
                            () -> method.answer(claims, 0));
                }
            }
        }
    }

    /** The first corners of a square. */
    private static CornerClaims open(int corners) {
        int[] points = {1, 1, 4, 1, 4, 4, 1, 4};
        CornerClaims claims = Texts.loaded("field 6 9;");
        Draw.open(claims, 0, java.util.Arrays.copyOf(points, 2 * corners));
        return claims;
    }

    private static void sixPolygons() {
        Due.sentence(19, "Throws `IllegalStateException` if there are 6 polygons");
        CornerClaims claims = small();
        for (int k = 2; k < 6; k++) {
            Due.answer("begin", claims.begin(k % 4, 6, k), k);
        }
        Due.thrown("begin of a 7th", IllegalStateException.class, () -> claims.begin(0, 6, 0));
        Due.thrown("begin of a 7th on a stone", IllegalStateException.class, () -> claims.begin(0, 6, 9));
        Due.thrown("begin of a 7th on a corner", IllegalStateException.class, () -> claims.begin(0, 1, 1));
        Due.thrown("begin of a 7th on a side", IllegalStateException.class, () -> claims.begin(0, 1, 8));
        Due.answer("count(3)", claims.count(3), 6);
        claims.remove(0);
        Due.answer("begin then", claims.begin(0, 6, 0), 5);
        Due.thrown("begin of a 7th", IllegalStateException.class, () -> claims.begin(0, 6, 1));
    }
}

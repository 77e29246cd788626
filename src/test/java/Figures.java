import java.util.function.ToIntBiFunction;

/** What the tests of the figures of closed polygons have in common. */
final class Figures {
    /** Polygons, as owner and corners, with twice the area, border, inner and dents of each. */
    static final Object[][] SHAPES = {
        {"0 0 0 1 0 0 1", 1, 3, 0, 0},
        {"0 0 1 1 0 0 0", 1, 3, 0, 0},
        {"0 0 0 4 0 0 3", 12, 8, 3, 0},
        {"0 0 0 30 0 30 30 0 30", 1800, 120, 841, 0},
        {"0 0 30 30 30 30 0 0 0", 1800, 120, 841, 0},
        {"0 0 0 5 0 10 0 10 10 0 10", 200, 40, 81, 0},
        {"0 2 1 8 1 8 9 5 3 2 9", 60, 28, 17, 1},
        {"0 2 9 5 3 8 9 8 1 2 1", 60, 28, 17, 1},
        {"0 0 2 2 0 4 2 2 4", 16, 8, 5, 0},
        {"0 0 0 30 29 29 30", 59, 3, 29, 0},
        {"0 0 0 6 4 3 3 2 8", 24, 6, 10, 1},
        {"0 0 0 1 1 2 1 4 0 4 4 0 4", 27, 15, 7, 2},
        {"0 0 4 4 4 4 0 2 1 1 1 0 0", 27, 15, 7, 2},
        {"0 30 30 0 29 29 29", 29, 31, 0, 0},
        {"0 0 0 0 4 1 4 1 1 3 1 3 4 5 4 5 1 10 1 10 0", 38, 34, 3, 3},
        {"0 0 0 2 1 4 0 6 1 8 0 10 1 12 0 14 1 16 0 18 1 20 0 10 9", 160, 12, 75, 5},
    };

    private Figures() {
    }

    /** Expects the column of the rows above of every shape, and the exceptions of such methods. */
    static void due(String name, int column, ToIntBiFunction<CornerClaims, Integer> figure) {
        for (Object[] row : SHAPES) {
            CornerClaims claims = Texts.loaded("field 30 30;polygon " + row[0] + ";");
            Due.answer(name + "(0) of " + row[0], figure.applyAsInt(claims, 0), (Integer) row[column]);
        }
        exceptions(name, figure);
    }

    static void exceptions(String name, ToIntBiFunction<CornerClaims, Integer> figure) {
        CornerClaims claims = Texts.loaded("field 9 9;polygon 0 0 0 1 0 0 1;polygon 1 3 3 4 3 3 4;");
        claims.begin(0, 9, 9);
        claims.corner(2, 8, 9);
        claims.corner(2, 9, 8);
        Due.thrown(name + "(2) of an open polygon", IllegalStateException.class,
                () -> figure.applyAsInt(claims, 2));
        for (int polygon : new int[] {-1, 3, 5, 6, 12, Integer.MIN_VALUE, Integer.MAX_VALUE}) {
            Due.thrown(name + "(" + polygon + ")", IndexOutOfBoundsException.class,
                    () -> figure.applyAsInt(claims, polygon));
        }
        claims.close(2);
        Due.answer(name + "(2) is as of the others", figure.applyAsInt(claims, 2),
                figure.applyAsInt(claims, 1));
    }
}

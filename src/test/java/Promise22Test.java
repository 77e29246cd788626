import java.util.NoSuchElementException;

/** Promise 22: bend. */
final class Promise22Test {
    private static final String SQUARE = "field 10 10;stone 5 0 9;polygon 1 2 2 8 2 8 8 2 8;";

    public static void main(String[] args) {
        places();
        refusals();
        linesOfBend();
        wrongInputs();
        Due.end();
    }

    private static void due(CornerClaims claims, int polygon, int... corners) {
        Due.answer("polygon(" + polygon + ", 1)", claims.polygon(polygon, 1), corners.length);
        for (int k = 0; k < corners.length; k++) {
            Due.answer("cornerAt(" + polygon + ", " + k + ")", claims.cornerAt(polygon, k), corners[k]);
        }
    }

    private static void places() {
        CornerClaims claims = Texts.loaded(SQUARE);
        Due.answer("bend inwards", claims.bend(0, 0, 5, 4), 60);
        due(claims, 0, 202, 504, 802, 808, 208);
        Due.answer("it is closed", claims.polygon(0, 2), 1);
        Due.answer("dents(0)", claims.dents(0), 1);
        Due.answer("bend outwards, the last side", claims.bend(0, 4, 0, 5), 72);
        due(claims, 0, 202, 504, 802, 808, 208, 5);
        Due.answer("bend to a point on the side", claims.bend(0, 3, 7, 8), 72);
        due(claims, 0, 202, 504, 802, 808, 708, 208, 5);
        Due.answer("undo()", claims.undo(), 3);
        due(claims, 0, 202, 504, 802, 808, 208, 5);
        Due.answer("undo()", claims.undo(), 2);
        Due.answer("undo()", claims.undo(), 1);
        due(claims, 0, 202, 802, 808, 208);
        // The bend changes which stones are claimed.
        claims = Texts.loaded("field 10 10;stone 5 3 9;polygon 1 2 2 8 2 8 8 2 8;");
        Due.answer("stone(0, 3)", claims.stone(0, 3), 0);
        Due.answer("bend", claims.bend(0, 0, 5, 4), 60);
        Due.answer("stone(0, 3)", claims.stone(0, 3), -1);
        // The corners go round in the other sense afterwards.
        claims = Texts.loaded("field 10 10;polygon 0 0 0 10 0 5 1;");
        Due.answer("bend around the third corner", claims.bend(0, 0, 5, 10), 90);
        due(claims, 0, 0, 510, 1000, 501);
        Due.answer("dents(0)", claims.dents(0), 1);
    }

    private static void refusals() {
        CornerClaims claims = Texts.loaded("field 30 9;stone 1 9 1;stone 25 5 1;"
                + "polygon 0 0 0 2 1 4 0 6 1 8 0 10 1 12 0 14 1 16 0 18 1 10 9;");
        long sum = claims.checksum();
        Due.answer("bend to a stone", claims.bend(0, 0, 1, 9), -3);
        Due.answer("bend to a corner of it", claims.bend(0, 0, 10, 1), -3);
        Due.answer("bend to an end of the side", claims.bend(0, 0, 2, 1), -3);
        Due.answer("nothing is changed", claims.checksum(), sum);
        Due.answer("undo() of the three", claims.undo() + claims.undo() + claims.undo(), 6);
        Due.answer("bend to the 12th corner", claims.bend(0, 9, 20, 0), 160);
        Due.answer("polygon(0, 1)", claims.polygon(0, 1), 12);
        Due.answer("bend to a 13th corner", claims.bend(0, 11, 1, 3), -2);
        Due.answer("bend to a 13th corner on a stone", claims.bend(0, 11, 1, 9), -2);
        claims.begin(0, 30, 0);
        claims.corner(1, 30, 9);
        Due.answer("bend of an open polygon", claims.bend(1, 0, 29, 5), -1);
        Due.answer("bend of an open polygon to a stone", claims.bend(1, 1, 1, 9), -1);
        claims.corner(1, 25, 9);
        Due.answer("bend of an open polygon", claims.bend(1, 2, 29, 5), -1);
        claims.close(1);
        Due.answer("bend past a stone", claims.bend(1, 2, 24, 5), 74);
    }

    private static void linesOfBend() {
        CornerClaims claims = Texts.loaded(
                "field 10 10;stone 3 4 1;polygon 1 2 2 8 2 8 8 2 8;polygon 2 5 4 6 4 6 5;");
        // On the straight line of the side, beyond either end of it.
        Due.answer("bend beyond the next corner", claims.bend(0, 0, 9, 2), -4);
        Due.answer("bend beyond the corner", claims.bend(0, 0, 1, 2), -4);
        // By the first line and by the second line.
        Due.answer("bend: a stone on the first line", claims.bend(0, 0, 4, 6), -4);
        Due.answer("bend: a stone on the second line", claims.bend(0, 3, 4, 6), -4);
        Due.answer("bend to the same point", claims.bend(0, 2, 4, 6), 60);
        claims.undo();
        Due.answer("bend: the first line meets a side", claims.bend(0, 0, 7, 5), -5);
        Due.answer("bend: the second line meets a side", claims.bend(0, 0, 4, 5), -5);
        Due.answer("bend: a corner on the first line", claims.bend(0, 0, 8, 6), -4);
        Due.answer("bend: both lines have a reason, the first counts", claims.bend(0, 1, 4, 2), -5);
        Due.answer("bend across its next side", claims.bend(0, 0, 10, 4), -5);
        Due.answer("bend to its own next side", claims.bend(0, 0, 8, 4), -5);
        Due.answer("bend to another side of its own", claims.bend(0, 0, 6, 8), -5);
        Due.answer("bend to a corner of the other", claims.bend(0, 0, 6, 5), -3);
        claims.remove(1);
        Due.answer("bend inwards", claims.bend(0, 0, 5, 5), 54);
        Due.answer("bend across the new side", claims.bend(0, 1, 3, 5), -5);
        Due.answer("bend inwards again", claims.bend(0, 1, 7, 4), 51);
    }

    private static void wrongInputs() {
        CornerClaims claims = Texts.loaded("field 5 9;polygon 0 4 4 5 4 4 5;");
        claims.begin(0, 0, 0);
        long sum = claims.checksum();
        for (int polygon : new int[] {-1, 2, 6, Integer.MIN_VALUE, Integer.MAX_VALUE}) {
            Due.thrown("bend(" + polygon + ", -1, -1, -1)", IndexOutOfBoundsException.class,
                    () -> claims.bend(polygon, -1, -1, -1));
        }
        for (int side : new int[] {-1, 3, 12, Integer.MIN_VALUE, Integer.MAX_VALUE}) {
            Due.thrown("bend(0, " + side + ", -1, -1)", NoSuchElementException.class,
                    () -> claims.bend(0, side, -1, -1));
        }
        Due.thrown("bend(1, 1, 1, 1) of an open one", NoSuchElementException.class,
                () -> claims.bend(1, 1, 1, 1));
        int[][] points = {{-1, 0}, {0, -1}, {6, 0}, {0, 10}, {9, 5}, {Integer.MAX_VALUE, 0},
            {0, Integer.MIN_VALUE}};
        for (int[] point : points) {
            for (int polygon = 0; polygon < 2; polygon++) {
                int p = polygon;
                Due.thrown("bend(" + p + ", 0, " + point[0] + ", " + point[1] + ")",
                        IllegalArgumentException.class, () -> claims.bend(p, 0, point[0], point[1]));
            }
        }
        Due.answer("checksum() is as before", claims.checksum(), sum);
        Due.answer("undo() knows load and begin", claims.undo(), 1);
    }
}

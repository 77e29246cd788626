/** Promise 9: reason. */
final class Promise09Test {
    public static void main(String[] args) {
        lines();
        endsOnSides();
        ownSides();
        orderOfReasons();
        wrongInputs();
        Due.end();
    }

    private static void due(CornerClaims claims, int polygon, int x, int y, int reason) {
        long sum = claims.checksum();
        Due.answer("reason(" + polygon + ", " + x + ", " + y + ")", claims.reason(polygon, x, y), reason);
        Due.answer("checksum() after reason", claims.checksum(), sum);
    }

    private static void lines() {
        CornerClaims claims = Texts.loaded("field 10 10;stone 2 8 5;polygon 0 4 4 8 4 8 8;");
        claims.begin(1, 0, 10);
        due(claims, 1, 0, 0, 0);
        due(claims, 1, 2, 8, 3);
        due(claims, 1, 4, 4, 3);
        due(claims, 1, 0, 10, 3);
        due(claims, 1, 3, 7, 4);
        due(claims, 1, 4, 6, 4);
        due(claims, 1, 1, 9, 0);
        due(claims, 1, 3, 8, 0);
        // On a side, across a side, and just not.
        due(claims, 1, 6, 6, 5);
        due(claims, 1, 7, 6, 5);
        due(claims, 1, 6, 7, 0);
        due(claims, 1, 10, 10, 0);
        due(claims, 1, 10, 9, 0);
        due(claims, 1, 10, 8, 0);
        due(claims, 1, 10, 7, 5);
        due(claims, 1, 10, 0, 4);
        // A line through a corner of another polygon only.
        claims.begin(2, 10, 4);
        due(claims, 2, 0, 4, 4);
        due(claims, 2, 9, 4, 0);
        due(claims, 2, 9, 3, 0);
        due(claims, 2, 7, 5, 5);
        due(claims, 2, 6, 5, 5);
        // The single corner of an open polygon is in the way, too.
        claims.begin(3, 10, 6);
        due(claims, 3, 10, 2, 4);
        due(claims, 3, 10, 5, 0);
        claims.undo();
        due(claims, 2, 10, 7, 0);
    }

    /** Lines that end on a side, in all directions, and that end just before it. */
    private static void endsOnSides() {
        CornerClaims claims = Texts.loaded("field 12 12;polygon 0 4 4 8 4 8 8 4 8;");
        claims.begin(1, 1, 5);
        due(claims, 1, 4, 6, 5);
        due(claims, 1, 4, 5, 5);
        due(claims, 1, 3, 6, 0);
        claims.undo();
        claims.begin(1, 11, 5);
        due(claims, 1, 8, 6, 5);
        due(claims, 1, 8, 5, 5);
        due(claims, 1, 9, 6, 0);
        claims.undo();
        claims.begin(1, 5, 1);
        due(claims, 1, 6, 4, 5);
        due(claims, 1, 5, 4, 5);
        due(claims, 1, 6, 3, 0);
        claims.undo();
        claims.begin(1, 5, 11);
        due(claims, 1, 6, 8, 5);
        due(claims, 1, 5, 8, 5);
        due(claims, 1, 6, 9, 0);
        claims.undo();
        // From the inside to each of the sides.
        claims.begin(1, 6, 5);
        due(claims, 1, 4, 6, 5);
        due(claims, 1, 8, 6, 5);
        due(claims, 1, 7, 4, 5);
        due(claims, 1, 7, 8, 5);
        due(claims, 1, 7, 7, 0);
        claims.undo();
        // On one straight line with a side, and on a line beside it.
        claims.begin(1, 0, 4);
        due(claims, 1, 3, 4, 0);
        due(claims, 1, 5, 4, 4);
        due(claims, 1, 12, 4, 4);
        due(claims, 1, 12, 3, 0);
        due(claims, 1, 12, 5, 5);
    }

    private static void ownSides() {
        CornerClaims claims = Texts.loaded("field 10 10;");
        claims.begin(0, 2, 2);
        due(claims, 0, 10, 10, 0);
        claims.corner(0, 6, 2);
        // On along the last side, and back along it.
        due(claims, 0, 8, 2, 0);
        due(claims, 0, 4, 2, 5);
        due(claims, 0, 0, 2, 4);
        due(claims, 0, 2, 2, 3);
        due(claims, 0, 6, 0, 0);
        claims.corner(0, 6, 6);
        due(claims, 0, 6, 4, 5);
        due(claims, 0, 4, 2, 5);
        due(claims, 0, 4, 0, 5);
        due(claims, 0, 6, 10, 0);
        due(claims, 0, 0, 0, 4);
        due(claims, 0, 3, 3, 0);
        due(claims, 0, 6, 1, 4);
        // The last side does not yet go round.
        claims.corner(0, 2, 6);
        due(claims, 0, 2, 4, 0);
        due(claims, 0, 1, 0, 0);
        claims.close(0);
        due(claims, 0, 1, 0, 1);
    }

    private static void orderOfReasons() {
        CornerClaims claims = Texts.loaded("field 30 9;stone 1 9 1;"
                + "polygon 0 0 0 2 1 4 0 6 1 8 0 10 1 12 0 14 1 16 0 18 1 20 0 10 9;");
        // Closed comes before full, full before taken.
        due(claims, 0, 1, 9, 1);
        claims.remove(0);
        claims.begin(0, 0, 0);
        for (int k = 1; k <= 10; k++) {
            due(claims, 0, 2 * k, k % 2, 0);
            claims.corner(0, 2 * k, k % 2);
        }
        due(claims, 0, 1, 9, 3);
        due(claims, 0, 0, 0, 3);
        claims.corner(0, 10, 9);
        due(claims, 0, 1, 9, 2);
        due(claims, 0, 0, 0, 2);
        due(claims, 0, 30, 9, 2);
        // A line with both a corner on it and a side across it has the reason 4.
        claims.begin(0, 0, 5);
        claims.begin(0, 8, 5);
        due(claims, 1, 20, 5, 4);
        due(claims, 2, 20, 5, 5);
    }

    private static void wrongInputs() {
        CornerClaims claims = Texts.loaded("field 5 9;");
        claims.begin(0, 0, 0);
        for (int polygon : new int[] {-1, 1, 6, Integer.MIN_VALUE, Integer.MAX_VALUE}) {
            Due.thrown("reason(" + polygon + ", 1, 1)", IndexOutOfBoundsException.class,
                    () -> claims.reason(polygon, 1, 1));
            Due.thrown("reason(" + polygon + ", 6, 1)", IndexOutOfBoundsException.class,
                    () -> claims.reason(polygon, 6, 1));
        }
        int[][] points = {{-1, 0}, {0, -1}, {6, 0}, {0, 10}, {9, 5}, {Integer.MAX_VALUE, 0},
            {0, Integer.MIN_VALUE}};
        for (int[] point : points) {
            Due.thrown("reason(0, " + point[0] + ", " + point[1] + ")", IllegalArgumentException.class,
                    () -> claims.reason(0, point[0], point[1]));
        }
        Due.answer("reason(0, 5, 9)", claims.reason(0, 5, 9), 0);
    }
}

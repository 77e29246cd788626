/** The sentences about new lines, and about the corners and closings that are refused. */
final class EdgesOfLinesTest {
    private static final String FOUR = "4 a stone, or a corner other than A and B, is on it;";
    private static final String FIVE = "5 it has a point in common with a side, of whatever polygon,"
            + " and this point is not a corner that is an end of both.";
    private static final String FIRST = "of which the first one that applies counts:";
    private static final String CORNER = "1 the polygon is closed; 2 it has 12 corners;"
            + " 3 the point is a stone or a corner; 4 or 5 by the line from its last corner to the point.";
    private static final String CLOSING = "1 it is closed; 6 it has fewer than 3 corners;"
            + " 4 or 5 by the line from its last corner to its first one.";
    private static final String SQUARE = "field 12 12;polygon 0 4 4 8 4 8 8 4 8;";
    private static final int[][] DIRECTIONS = {{1, 0}, {1, 1}, {0, 1}, {-1, 1}, {-1, 0}, {-1, -1}, {0, -1},
        {1, -1}, {2, 1}, {1, 2}, {-1, 2}, {-2, 1}, {-2, -1}, {-1, -2}, {1, -2}, {2, -1}, {3, 1}, {-1, 3}};

    public static void main(String[] args) {
        stoneOnLine();
        cornerOnLine();
        sidesOfOthers();
        sidesOfItsOwn();
        openSides();
        noReason();
        firstReason();
        orderOfCornersReasons();
        closings();
        closingsLines();
        Due.end();
    }

    /** What reason and then corner answer; the latter is undone. */
    private static void due(String words, CornerClaims claims, int polygon, int x, int y, int reason) {
        Due.sentence(9, words);
        String point = "(" + polygon + ", " + x + ", " + y + ")";
        Due.answer("reason" + point, claims.reason(polygon, x, y), reason);
        Due.sentence(20, words);
        int size = claims.polygon(polygon, 1);
        Due.answer("corner" + point, claims.corner(polygon, x, y), reason == 0 ? size + 1 : -reason);
        Due.answer("polygon(" + polygon + ", 1)", claims.polygon(polygon, 1),
                reason == 0 ? size + 1 : size);
        claims.undo();
    }

    /** Lines towards the point 6 6, in a direction: before it, to it, beyond it and beside it. */
    private static void linesBy66(CornerClaims claims, int dx, int dy) {
        int polygon = claims.begin(1, 6 - dx, 6 - dy);
        due(FOUR, claims, polygon, 6, 6, 3);
        due(FOUR, claims, polygon, 6 + dx, 6 + dy, 4);
        due(FOUR, claims, polygon, 6 + dx + (dy == 0 ? 0 : 1), 6 + dy + (dy == 0 ? 1 : 0), 0);
        claims.undo();
        polygon = claims.begin(1, 6 - 2 * dx, 6 - 2 * dy);
        due(FOUR, claims, polygon, 6 - dx, 6 - dy, 0);
        due(FOUR, claims, polygon, 6 + dx, 6 + dy, 4);
        claims.undo();
    }

    private static void stoneOnLine() {
        for (int[] to : DIRECTIONS) {
            linesBy66(Texts.loaded("field 12 12;stone 6 6 1;"), to[0], to[1]);
        }
    }

    private static void cornerOnLine() {
        for (int[] to : DIRECTIONS) {
            CornerClaims claims = Texts.loaded("field 12 12;");
            Draw.open(claims, 0, 6, 6);
            linesBy66(claims, to[0], to[1]);
        }
        // A corner of a closed polygon: the line goes past it without a way through it.
        CornerClaims claims = Texts.loaded(SQUARE);
        Draw.open(claims, 1, 2, 5);
        due(FOUR, claims, 1, 6, 3, 4);
        due(FOUR, claims, 1, 5, 3, 0);
        // The first and the second corner of its own.
        claims = Texts.loaded("field 12 12;");
        Draw.open(claims, 0, 6, 6, 8, 9, 3, 6);
        due(FOUR, claims, 0, 9, 6, 4);
        due(FOUR, claims, 0, 12, 6, 4);
        due(FOUR, claims, 0, 5, 6, 0);
        due(FOUR, claims, 0, 9, 5, 0);
        claims = Texts.loaded("field 12 12;");
        Draw.open(claims, 0, 0, 0, 6, 6, 6, 9, 2, 6);
        due(FOUR, claims, 0, 7, 6, 4);
        due(FOUR, claims, 0, 5, 6, 0);
    }

    private static void sidesOfOthers() {
        CornerClaims claims = Texts.loaded(SQUARE);
        Draw.open(claims, 1, 2, 5);
        due(FIVE, claims, 1, 10, 6, 5);
        due(FIVE, claims, 1, 10, 5, 5);
        due(FIVE, claims, 1, 5, 6, 5);
        due(FIVE, claims, 1, 4, 5, 5);
        due(FIVE, claims, 1, 4, 6, 5);
        due(FIVE, claims, 1, 3, 5, 0);
        due(FIVE, claims, 1, 3, 12, 0);
        due(FIVE, claims, 1, 6, 2, 0);
        // Each of the four sides, from without and from within.
        int[][] starts = {{5, 1}, {11, 5}, {5, 11}, {1, 5}, {6, 6}};
        int[][] ends = {{6, 4}, {8, 6}, {6, 8}, {4, 6}};
        for (int k = 0; k < 4; k++) {
            for (int start : new int[] {k, 4}) {
                claims = Texts.loaded(SQUARE);
                Draw.open(claims, 1, starts[start][0], starts[start][1]);
                due(FIVE, claims, 1, ends[k][0], ends[k][1], 5);
            }
        }
        claims = Texts.loaded(SQUARE);
        Draw.open(claims, 1, 6, 6);
        due(FIVE, claims, 1, 5, 7, 0);
        // On one straight line with a side, apart from it, and on the next straight line.
        claims = Texts.loaded(SQUARE);
        Draw.open(claims, 1, 2, 4);
        due(FIVE, claims, 1, 3, 4, 0);
        due(FIVE, claims, 1, 2, 12, 0);
        claims = Texts.loaded(SQUARE);
        Draw.open(claims, 1, 3, 3);
        due(FIVE, claims, 1, 9, 3, 0);
        due(FIVE, claims, 1, 3, 9, 0);
        // The lines would meet beyond the line's end, and beyond the side's end.
        claims = Texts.loaded("field 12 12;polygon 0 3 3 6 6 3 6;");
        Draw.open(claims, 1, 9, 3);
        due(FIVE, claims, 1, 7, 5, 0);
        due(FIVE, claims, 1, 5, 3, 0);
        due(FIVE, claims, 1, 4, 4, 5);
        due(FIVE, claims, 1, 6, 8, 0);
    }

    private static void sidesOfItsOwn() {
        CornerClaims claims = Texts.loaded("field 12 12;");
        Draw.open(claims, 0, 2, 2, 8, 2);
        // Back along its last side, straight on, and round a corner.
        due(FIVE, claims, 0, 7, 2, 5);
        due(FIVE, claims, 0, 3, 2, 5);
        due(FIVE, claims, 0, 1, 2, 4);
        due(FIVE, claims, 0, 9, 2, 0);
        due(FIVE, claims, 0, 2, 3, 0);
        claims.corner(0, 8, 6);
        due(FIVE, claims, 0, 8, 3, 5);
        due(FIVE, claims, 0, 8, 0, 4);
        due(FIVE, claims, 0, 8, 12, 0);
        due(FIVE, claims, 0, 5, 2, 5);
        due(FIVE, claims, 0, 2, 0, 5);
        due(FIVE, claims, 0, 2, 6, 0);
        due(FIVE, claims, 0, 3, 3, 0);
        // A slanting side, in both senses.
        claims = Texts.loaded("field 12 12;");
        Draw.open(claims, 0, 2, 2, 8, 5);
        due(FIVE, claims, 0, 4, 3, 5);
        due(FIVE, claims, 0, 10, 6, 0);
        due(FIVE, claims, 0, 4, 4, 0);
        claims = Texts.loaded("field 12 12;");
        Draw.open(claims, 0, 8, 5, 2, 2);
        due(FIVE, claims, 0, 6, 4, 5);
        due(FIVE, claims, 0, 0, 1, 0);
        due(FIVE, claims, 0, 6, 3, 0);
    }

    private static void openSides() {
        CornerClaims claims = Texts.loaded("field 12 12;");
        Draw.open(claims, 0, 4, 2, 10, 6, 4, 10);
        Draw.open(claims, 1, 2, 5);
        due(FIVE, claims, 1, 8, 5, 0);
        due(FIVE, claims, 1, 9, 5, 5);
        due(FIVE, claims, 1, 4, 6, 0);
        claims.close(0);
        due(FIVE, claims, 1, 8, 5, 5);
        due(FIVE, claims, 1, 4, 6, 5);
        // A single corner has no side.
        claims = Texts.loaded("field 12 12;");
        Draw.open(claims, 0, 6, 6);
        Draw.open(claims, 1, 2, 5);
        due(FIVE, claims, 1, 10, 6, 0);
    }

    private static void noReason() {
        CornerClaims claims = new CornerClaims();
        Draw.open(claims, 0, 0, 0);
        for (int x = 0; x <= 2; x++) {
            for (int y = 0; y <= 2; y++) {
                due("0 stands for no reason.", claims, 0, x, y, x == 0 && y == 0 ? 3 : 0);
            }
        }
    }

    private static void firstReason() {
        CornerClaims claims = Texts.loaded(SQUARE + "stone 10 6 1;");
        Draw.open(claims, 1, 2, 6);
        due(FIRST, claims, 1, 9, 6, 5);
        due(FIRST, claims, 1, 11, 6, 4);
        claims = Texts.loaded(SQUARE);
        Draw.open(claims, 1, 10, 6);
        Draw.open(claims, 2, 2, 6);
        due(FIRST, claims, 2, 9, 6, 5);
        due(FIRST, claims, 2, 11, 6, 4);
        // The side at the end and the stone before it.
        claims = Texts.loaded(SQUARE + "stone 3 6 1;");
        Draw.open(claims, 1, 2, 6);
        due(FIRST, claims, 1, 4, 6, 4);
    }

    private static void orderOfCornersReasons() {
        String row = "0 0 2 1 4 0 6 1 8 0 10 1 12 0 14 1 16 0 18 1 20 0 10 9";
        CornerClaims claims = Texts.loaded("field 30 9;stone 1 9 1;stone 29 9 1;polygon 0 " + row + ";");
        // Closed with 12 corners; a stone, a corner, a line that is blocked or crosses, a free line.
        for (int[] point : new int[][] {{1, 9}, {0, 0}, {30, 9}, {9, 0}, {11, 9}}) {
            due(CORNER, claims, 0, point[0], point[1], 1);
        }
        claims.remove(0);
        Draw.open(claims, 0, 0, 0, 2, 1, 4, 0, 6, 1, 8, 0, 10, 1, 12, 0, 14, 1, 16, 0, 18, 1, 20, 0);
        due(CORNER, claims, 0, 10, 9, 0);
        due(CORNER, claims, 0, 1, 9, 3);
        claims.corner(0, 10, 9);
        for (int[] point : new int[][] {{1, 9}, {0, 0}, {30, 9}, {9, 0}, {11, 9}}) {
            due(CORNER, claims, 0, point[0], point[1], 2);
        }
        // A stone behind a stone, a corner behind a side.
        claims = Texts.loaded("field 12 12;stone 6 6 1;stone 9 9 1;");
        Draw.open(claims, 0, 3, 3);
        due(CORNER, claims, 0, 9, 9, 3);
        due(CORNER, claims, 0, 10, 10, 4);
        claims = Texts.loaded(SQUARE);
        Draw.open(claims, 1, 2, 5);
        due(CORNER, claims, 1, 8, 8, 3);
        due(CORNER, claims, 1, 8, 9, 5);
        // The line comes from the last corner and not from the first one.
        claims = Texts.loaded("field 9 9;stone 0 4 1;");
        Draw.open(claims, 0, 0, 0, 4, 0);
        due(CORNER, claims, 0, 0, 8, 0);
        claims = Texts.loaded("field 9 9;stone 2 4 1;");
        Draw.open(claims, 0, 0, 0, 4, 0);
        due(CORNER, claims, 0, 0, 8, 4);
    }

    private static void closings() {
        Due.sentence(21, CLOSING);
        CornerClaims claims = Texts.loaded("field 9 9;polygon 0 8 8 9 8 8 9;");
        Due.answer("close of a closed one", claims.close(0), -1);
        claims.begin(1, 0, 0);
        Due.answer("close with 1 corner", claims.close(1), -6);
        claims.corner(1, 4, 0);
        Due.answer("close with 2 corners", claims.close(1), -6);
        Due.answer("polygon(1, 2)", claims.polygon(1, 2), 0);
        claims.corner(1, 0, 4);
        Due.answer("close with 3 corners", claims.close(1), 0);
        Due.answer("polygon(1, 2)", claims.polygon(1, 2), 1);
        Due.answer("close again", claims.close(1), -1);
        claims = Texts.loaded("field 30 9;");
        Draw.open(claims, 0, 0, 0, 2, 1, 4, 0, 6, 1, 8, 0, 10, 1, 12, 0, 14, 1, 16, 0, 18, 1, 20, 0, 10, 9);
        Due.answer("close with 12 corners", claims.close(0), 0);
    }

    private static void closing(String setup, int due, int... points) {
        CornerClaims claims = Texts.loaded(setup);
        int polygon = Draw.open(claims, 0, points);
        Due.answer("close after " + setup, claims.close(polygon), due);
        Due.answer("polygon(p, 2) then", claims.polygon(polygon, 2), due < 0 ? 0 : 1);
    }

    private static void closingsLines() {
        Due.sentence(21, FOUR);
        closing("field 9 9;stone 0 2 1;", -4, 0, 0, 4, 0, 0, 4);
        closing("field 9 9;stone 0 5 1;", 0, 0, 0, 4, 0, 0, 4);
        closing("field 9 9;polygon 0 0 2 1 1 1 2;", -4, 0, 0, 4, 0, 0, 4);
        closing("field 9 9;", -4, 0, 0, 2, 0, 4, 0);
        closing("field 9 9;", -4, 0, 0, 3, 3, 6, 3, 6, 6);
        CornerClaims claims = Texts.loaded("field 9 9;");
        Draw.open(claims, 1, 0, 2);
        Draw.open(claims, 0, 0, 0, 4, 0, 0, 4);
        Due.answer("close with a lone corner on the line", claims.close(1), -4);
        Due.sentence(21, FIVE);
        closing("field 9 9;polygon 0 2 6 6 6 6 8 2 8;", 0, 4, 0, 8, 0, 4, 5);
        closing("field 9 9;polygon 0 2 4 5 5 2 6;", -5, 4, 0, 8, 0, 4, 8);
        closing("field 9 9;", -5, 3, 3, 6, 3, 6, 6, 1, 6, 1, 1, 8, 1, 8, 7);
        closing("field 9 9;", 0, 3, 3, 6, 3, 6, 6, 1, 6, 1, 1, 2, 1);
        // Straight on at the first corner, and at the last one.
        closing("field 9 9;", 0, 4, 0, 8, 0, 8, 6, 0, 6, 0, 0);
        closing("field 9 9;", 0, 8, 0, 8, 6, 0, 6, 0, 0, 4, 0);
        Due.sentence(21, FIRST);
        closing("field 9 9;", -5, 3, 3, 7, 3, 7, 6, 1, 6, 1, 1, 9, 1, 9, 9);
        closing("field 9 9;stone 4 4 1;", -4, 3, 3, 7, 3, 7, 6, 1, 6, 1, 1, 9, 1, 9, 9);
        closing("field 9 9;stone 8 8 1;", -4, 3, 3, 7, 3, 7, 6, 1, 6, 1, 1, 9, 1, 9, 9);
    }
}

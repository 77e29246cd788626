/** The sentences about sides that are bent and corners that are taken out. */
final class EdgesOfBendsTest {
    private static final String FOUR = "4 a stone, or a corner other than A and B, is on it;";
    private static final String FIVE = "5 it has a point in common with a side, of whatever polygon,"
            + " and this point is not a corner that is an end of both.";
    private static final String FIRST = "of which the first one that applies counts:";
    private static final String GOES = "Sides and corners that go at the same time do not count.";
    private static final String BEND = "1 the polygon is open; 2 it has 12 corners;"
            + " 3 the point is a stone or a corner; 4 or 5 by the line from corner k to the point, and then"
            + " 4 or 5 by the line from the next corner (behind the last one, the first one) to the point.";
    private static final String COMMON =
            "(The two lines have the point in common, which does not matter.";
    private static final String BEYOND = "if the point is on the straight line of the side beyond one of"
            + " its ends, reason 4 applies.)";
    private static final String TAKE_OUT =
            "1 the polygon is open; 6 it has 3 corners; 4 or 5 by the line between the corners beside it.";
    private static final String SQUARE = "field 10 10;polygon 0 2 2 8 2 8 8 2 8;";

    public static void main(String[] args) {
        orderOfBendsReasons();
        linesOfBend();
        firstLineFirst();
        beyondTheEnds();
        neighbours();
        sideThatGoes();
        onlyAtTheSameTime();
        orderOfTakingOutsReasons();
        lineOfTakingOut();
        cornersBeside();
        cornerThatGoes();
        Due.end();
    }

    /** An answer below 0 must leave the corners as they were. */
    private static void bend(CornerClaims claims, int side, int x, int y, int due) {
        int size = claims.polygon(0, 1);
        Due.answer("bend(0, " + side + ", " + x + ", " + y + ")", claims.bend(0, side, x, y), due);
        Due.answer("polygon(0, 1) then", claims.polygon(0, 1), due < 0 ? size : size + 1);
        claims.undo();
    }

    private static void bend(String setup, int side, int x, int y, int due) {
        bend(Texts.loaded(setup), side, x, y, due);
    }

    private static void takeOut(String setup, int place, int due) {
        CornerClaims claims = Texts.loaded(setup);
        int size = claims.polygon(0, 1);
        Due.answer("takeOut(0, " + place + ") of " + setup, claims.takeOut(0, place), due);
        Due.answer("polygon(0, 1) then", claims.polygon(0, 1), due < 0 ? size : size - 1);
    }

    private static void orderOfBendsReasons() {
        Due.sentence(22, BEND);
        CornerClaims open = Texts.loaded("field 30 9;stone 1 9 1;");
        Draw.open(open, 0, 0, 0, 2, 1, 4, 0, 6, 1, 8, 0, 10, 1, 12, 0, 14, 1, 16, 0, 18, 1, 20, 0);
        bend(open, 0, 1, 5, -1);
        bend(open, 10, 1, 9, -1);
        bend(open, 10, 2, 1, -1);
        open.corner(0, 10, 9);
        bend(open, 0, 1, 9, -1);
        bend(open, 11, 1, 5, -1);
        open.close(0);
        // Now it is closed, and has 12 corners: a free point, a stone, a corner, a point across a side.
        bend(open, 11, 1, 5, -2);
        bend(open, 11, 1, 9, -2);
        bend(open, 11, 2, 1, -2);
        bend(open, 11, 20, 9, -2);
        open.takeOut(0, 0);
        bend(open, 10, 1, 9, -3);
        bend(open, 10, 4, 0, -3);
        // A stone and a corner, with lines that are blocked or cross sides; an end of the side itself.
        String stones = "stone 5 5 1;stone 1 9 1;";
        bend(SQUARE + stones, 0, 1, 9, -3);
        bend(SQUARE + stones, 0, 8, 8, -3);
        bend(SQUARE + stones, 0, 2, 2, -3);
        bend(SQUARE + stones, 0, 8, 2, -3);
        bend(SQUARE + stones, 0, 5, 5, -3);
        bend(SQUARE + stones, 0, 5, 4, 60);
    }

    private static void linesOfBend() {
        // The side 3 goes from 2 8 to 2 2, so that the lines change places.
        Due.sentence(22, FOUR);
        bend(SQUARE + "stone 3 4 1;", 0, 4, 6, -4);
        bend(SQUARE + "stone 3 4 1;", 3, 4, 6, -4);
        bend(SQUARE + "stone 3 4 1;", 2, 4, 6, 60);
        bend(SQUARE + "stone 7 3 1;", 0, 4, 6, -4);
        bend(SQUARE + "stone 7 3 1;", 3, 4, 6, 60);
        bend(SQUARE + "stone 5 7 1;", 0, 4, 6, 48);
        bend(SQUARE + "polygon 0 3 4 3 5 4 5;", 0, 4, 6, -4);
        bend(SQUARE + "polygon 0 3 4 3 5 4 5;", 3, 4, 6, -4);
        CornerClaims claims = Texts.loaded(SQUARE);
        claims.begin(0, 5, 5);
        bend(claims, 0, 4, 6, -4);
        bend(claims, 3, 4, 6, 60);
        Due.sentence(22, FIVE);
        bend(SQUARE + "polygon 0 3 5 4 5 3 6;", 0, 4, 6, -5);
        bend(SQUARE + "polygon 0 3 5 4 5 3 6;", 3, 4, 6, -5);
        bend(SQUARE + "polygon 0 3 5 4 5 3 6;", 1, 6, 6, 60);
        bend(SQUARE + "polygon 0 7 5 6 5 7 7;", 0, 6, 6, -5);
        bend(SQUARE + "polygon 0 7 5 6 5 7 7;", 1, 6, 6, -5);
        // To a side of another one, and of its own; just before it.
        bend(SQUARE + "polygon 0 4 5 6 5 5 7;", 0, 5, 5, -5);
        bend(SQUARE + "polygon 0 4 5 6 5 5 7;", 0, 5, 4, 60);
        bend(SQUARE, 0, 5, 8, -5);
        bend(SQUARE, 0, 5, 10, -5);
        bend(SQUARE, 0, 5, 7, 42);
        // A side of an open one; the side that would close it is none.
        claims = Texts.loaded(SQUARE);
        Draw.open(claims, 0, 4, 4, 4, 6, 7, 6, 7, 4);
        bend(claims, 0, 6, 5, 54);
        bend(claims, 2, 6, 5, -5);
        claims.close(1);
        bend(claims, 0, 6, 5, -5);
    }

    private static void firstLineFirst() {
        Due.sentence(22, BEND);
        // The first line crosses a side, and on the second one is a stone; then only one of both.
        String left = "polygon 0 3 5 4 5 3 7;";
        bend(SQUARE + left + "stone 6 4 1;", 0, 4, 6, -5);
        bend(SQUARE + "stone 6 4 1;", 0, 4, 6, -4);
        bend(SQUARE + left, 0, 4, 6, -5);
        // The other way round.
        String right = "polygon 0 7 5 6 5 7 7;";
        bend(SQUARE + right + "stone 4 4 1;", 0, 6, 6, -4);
        bend(SQUARE + right, 0, 6, 6, -5);
        bend(SQUARE, 0, 6, 6, 48);
        // The line from the last corner is the first one of the last side.
        bend("field 10 10;polygon 0 8 2 8 8 2 8 2 2;" + left + "stone 6 4 1;", 3, 4, 6, -5);
        bend("field 10 10;polygon 0 8 2 8 8 2 8 2 2;" + right + "stone 4 4 1;", 3, 6, 6, -4);
        // Beyond an end of the side: the first line crosses a side, the second one goes through corner k.
        String side = "field 10 10;polygon 0 3 3 7 3 7 7 3 7;polygon 0 1 2 2 4 1 4;";
        bend(side, 0, 2, 3, -4);
        bend(side, 0, 0, 3, -5);
        bend(side, 3, 3, 0, -4);
        Due.sentence(22, FIRST);
        bend(SQUARE + left + "stone 3 4 1;", 0, 4, 6, -4);
        bend(SQUARE + right + "stone 7 4 1;", 0, 6, 6, -4);
    }

    private static void beyondTheEnds() {
        Due.sentence(22, BEYOND);
        String square = "field 10 10;polygon 0 3 3 7 3 7 7 3 7;";
        int[][] beyond = {{8, 3}, {10, 3}, {2, 3}, {0, 3}, {7, 8}, {7, 10}, {7, 2}, {7, 0},
            {2, 7}, {0, 7}, {8, 7}, {10, 7}, {3, 2}, {3, 0}, {3, 8}, {3, 10}};
        for (int k = 0; k < beyond.length; k++) {
            bend(square, k / 4, beyond[k][0], beyond[k][1], -4);
        }
        String rhombus = "field 10 10;polygon 0 5 2 8 5 5 8 2 5;";
        int[][] aslant = {{9, 6}, {10, 7}, {4, 1}, {3, 0}, {4, 9}, {3, 10}, {9, 4}, {10, 3},
            {1, 4}, {0, 3}, {6, 9}, {7, 10}, {6, 1}, {7, 0}, {1, 6}, {0, 7}};
        for (int k = 0; k < aslant.length; k++) {
            bend(rhombus, k / 4, aslant[k][0], aslant[k][1], -4);
        }
        Due.sentence(22, COMMON);
        bend(square, 0, 5, 2, 36);
        bend(square, 0, 4, 2, 36);
        bend(square, 0, 3, 1, 40);
        bend(square, 0, 9, 2, 36);
        Due.sentence(22, "(which becomes a corner behind corner k; the side goes, and two lines to the point"
                + " come)");
        CornerClaims claims = Texts.loaded(square);
        int[][] points = {{5, 5}, {6, 6}, {6, 8}, {8, 8}};
        int[] sides = {0, 1, 4, 3};
        for (int k = 0; k < 4; k++) {
            int[] to = points[k];
            Due.answer("bend(0, " + sides[k] + ", ..)", claims.bend(0, sides[k], to[0], to[1]) > 0 ? 1 : 0, 1);
            Due.answer("the corner behind", claims.cornerAt(0, sides[k] + 1), 100 * to[0] + to[1]);
            Due.answer("where(0, x, y)", claims.where(0, to[0], to[1]), 1);
        }
        int[] corners = {303, 505, 606, 703, 808, 707, 608, 307};
        for (int k = 0; k < 8; k++) {
            Due.answer("cornerAt(0, " + k + ")", claims.cornerAt(0, k), corners[k]);
        }
    }

    /** The sides beside the one that is bent have an end in common with a line. */
    private static void neighbours() {
        Due.sentence(22, FIVE);
        String square = "field 10 10;polygon 0 3 3 7 3 7 7 3 7;";
        bend(square, 0, 3, 1, 40);
        bend(square, 0, 7, 1, 40);
        bend(square, 0, 3, 4, -5);
        bend(square, 0, 3, 6, -5);
        bend(square, 0, 7, 4, -5);
        bend(square, 0, 7, 6, -5);
        bend(square, 0, 4, 4, 28);
        bend(square, 0, 6, 4, 28);
        bend(square, 3, 1, 7, 40);
        bend(square, 3, 4, 7, -5);
        bend(square, 3, 4, 3, -5);
        Due.sentence(22, FOUR);
        bend(square, 0, 3, 8, -4);
    }

    private static void sideThatGoes() {
        Due.sentence(22, GOES);
        bend(SQUARE, 0, 3, 2, 72);
        bend(SQUARE, 1, 8, 5, 72);
        bend(SQUARE, 2, 7, 8, 72);
        bend(SQUARE, 3, 2, 3, 72);
        bend("field 10 10;polygon 0 1 1 7 4 1 4;", 0, 3, 2, 18);
        bend("field 10 10;polygon 0 1 1 7 4 1 4;", 0, 5, 3, 18);
        // Only that side goes: side 0 of another one and its other sides stay.
        bend(SQUARE + "polygon 0 4 5 6 5 5 7;", 0, 5, 6, -5);
        bend("field 10 10;polygon 0 2 2 8 2 8 8 2 8;polygon 0 9 0 10 0 10 1;", 0, 5, 9, -5);
    }

    /** What was to go in a call that was refused counts in the next call. */
    private static void onlyAtTheSameTime() {
        for (int k = 0; k < 2; k++) {
            CornerClaims claims = Texts.loaded(SQUARE + "stone 5 5 1;");
            Draw.open(claims, 1, 5, 1);
            Draw.open(claims, 1, 0, 0);
            Draw.open(claims, 1, 4, 1, 0, 1, 1, 4);
            refuse(claims, k == 0);
            Due.sentence(9, GOES);
            Due.answer("reason across the side", claims.reason(1, 5, 3), 5);
            Due.answer("reason on the side", claims.reason(1, 5, 2), 5);
            refuse(claims, k == 0);
            Due.sentence(9, GOES);
            Due.answer("reason across the corner", claims.reason(2, 3, 3), 4);
            refuse(claims, k == 0);
            Due.sentence(20, GOES);
            Due.answer("corner across the side", claims.corner(1, 5, 3), -5);
            refuse(claims, k == 0);
            Due.sentence(21, GOES);
            Due.answer("close across the sides beside the corner", claims.close(3), -5);
        }
    }

    /** By a bend the side 0 is to go, by a taking out the corner 0 with the sides 3 and 0. */
    private static void refuse(CornerClaims claims, boolean byBend) {
        Due.sentence(byBend ? 22 : 23, GOES);
        Due.answer("a call that is refused", byBend ? claims.bend(0, 0, 9, 5) : claims.takeOut(0, 0),
                byBend ? -5 : -4);
    }

    private static void orderOfTakingOutsReasons() {
        Due.sentence(23, TAKE_OUT);
        CornerClaims claims = Texts.loaded("field 9 9;");
        claims.begin(0, 0, 0);
        Due.answer("takeOut of the only corner", claims.takeOut(0, 0), -1);
        claims.corner(0, 6, 0);
        Due.answer("takeOut of two, open", claims.takeOut(0, 1), -1);
        claims.corner(0, 6, 6);
        Due.answer("takeOut of three, open", claims.takeOut(0, 1), -1);
        claims.corner(0, 0, 6);
        Due.answer("takeOut of four, open", claims.takeOut(0, 1), -1);
        Due.answer("polygon(0, 1)", claims.polygon(0, 1), 4);
        claims.close(0);
        Due.answer("takeOut of four", claims.takeOut(0, 1), 36);
        for (int place = 0; place < 3; place++) {
            Due.answer("takeOut of three", claims.takeOut(0, place), -6);
        }
        Due.answer("polygon(0, 1)", claims.polygon(0, 1), 3);
    }

    private static void lineOfTakingOut() {
        // The diagonals of the square: without corner 0 or 2 from 2 8 to 8 2, else from 2 2 to 8 8.
        Due.sentence(23, FOUR);
        for (int place = 0; place < 4; place++) {
            takeOut(SQUARE, place, 36);
            takeOut(SQUARE + "stone 4 6 1;", place, place % 2 == 0 ? -4 : 36);
            takeOut(SQUARE + "stone 4 4 1;", place, place % 2 == 0 ? 36 : -4);
            takeOut(SQUARE + "stone 1 9 1;stone 1 1 1;", place, 36);
            takeOut(SQUARE + "polygon 0 4 4 5 3 6 3;", place, place % 2 == 0 ? 36 : -4);
            takeOut(SQUARE + "polygon 0 3 4 4 3 4 4;", place, place % 2 == 0 ? 36 : -4);
        }
        CornerClaims claims = Texts.loaded(SQUARE);
        claims.begin(0, 5, 5);
        Due.answer("takeOut with a lone corner on the line", claims.takeOut(0, 2), -4);
        takeOut("field 10 10;polygon 0 0 0 6 0 6 6 3 3 0 6;", 1, -4);
        takeOut("field 10 10;polygon 0 0 0 3 0 6 0 3 4;", 3, -4);
        Due.sentence(23, FIVE);
        takeOut("field 10 10;polygon 0 0 0 6 0 6 6 3 2 0 6;", 1, -5);
        takeOut("field 10 10;polygon 0 0 0 6 0 6 6 3 4 0 6;", 1, 24);
        for (int place = 0; place < 4; place++) {
            takeOut(SQUARE + "polygon 0 3 4 5 4 3 5;", place, place % 2 == 0 ? 36 : -5);
            takeOut(SQUARE + "polygon 0 4 5 5 4 4 7;", place, -5);
        }
        // Straight on with a side beside the two that go.
        takeOut("field 10 10;polygon 0 0 0 2 0 3 2 4 0 4 6 0 6;", 2, 48);
        takeOut("field 10 10;polygon 0 2 0 3 2 4 0 6 0 6 6 2 6;", 1, 48);
        Due.sentence(23, FIRST);
        takeOut("field 10 10;stone 5 5 1;polygon 0 0 0 6 0 6 6 3 2 0 6;", 1, -4);
        takeOut("field 10 10;stone 1 1 1;polygon 0 0 0 6 0 6 6 3 2 0 6;", 1, -4);
    }

    private static void cornersBeside() {
        Due.sentence(23, "To take out corner k of a closed polygon (with its two sides; a line between the"
                + " corners beside it comes)");
        // The only diagonal that is free is that from 2 8 to 8 2; then that from 2 2 to 8 8.
        for (int place = 0; place < 4; place++) {
            CornerClaims claims = Texts.loaded(SQUARE + "stone 3 3 1;");
            boolean isFree = place == 0 || place == 2;
            Due.answer("takeOut(0, " + place + ")", claims.takeOut(0, place), isFree ? 36 : -4);
            Due.answer("stone(0, 3)", claims.stone(0, 3), place == 0 ? -1 : 0);
            if (isFree) {
                Due.answer("where(0, 5, 5)", claims.where(0, 5, 5), 1);
                Due.answer("where of a side that went", claims.where(0, place == 0 ? 2 : 8, 5), 0);
                Due.answer("where of a side that stays", claims.where(0, place == 0 ? 8 : 2, 5), 1);
            }
            claims = Texts.loaded(SQUARE + "stone 3 7 1;");
            Due.answer("takeOut(0, " + place + ")", claims.takeOut(0, place), isFree ? -4 : 36);
        }
    }

    private static void cornerThatGoes() {
        Due.sentence(23, GOES);
        takeOut("field 10 10;polygon 0 0 0 5 0 10 0 10 10 0 10;", 1, 200);
        takeOut("field 10 10;polygon 0 5 0 10 0 10 10 0 10 0 0;", 0, 200);
        takeOut("field 10 10;polygon 0 10 0 10 10 0 10 0 0 5 0;", 4, 200);
        takeOut("field 10 10;polygon 0 0 0 6 3 10 5 0 5;", 1, 50);
        // Only its own go: corner 0 and the sides 3 and 0 of another one stay, and corner 1.
        takeOut(SQUARE + "polygon 0 5 5 4 4 3 5;", 0, -4);
        takeOut(SQUARE + "polygon 0 4 6 5 5 4 7;", 1, -4);
        takeOut(SQUARE + "polygon 0 6 5 3 6 3 4 5 3;", 0, -5);
        takeOut(SQUARE + "polygon 0 4 5 5 4 4 6;", 1, -5);
        // Only that corner goes: another one on the line stays.
        takeOut("field 10 10;polygon 0 0 0 3 0 5 0 10 0 10 10 0 10;", 1, 200);
        takeOut("field 10 10;polygon 0 0 0 3 1 5 0 10 0 5 5;", 4, -4);
    }
}

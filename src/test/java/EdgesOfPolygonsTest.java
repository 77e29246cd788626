import java.util.NoSuchElementException;

/** The sentences that name a boundary in the first part of "Polygons", up to the new lines. */
final class EdgesOfPolygonsTest {
    private static final String NUMBER = "There are at most 6 polygons, with indexes from 0.";
    private static final String PARTS = "A polygon has an owner (a player, 0 to 3), and 1 to 12 corners,"
            + " which are points of the field, in an order, with places from 0.";
    private static final String LAST_SIDE =
            "a closed polygon also has the side from its last corner to its first one.";
    private static final String ONE_POINT =
            "No two corners (of all polygons) are the same point, and no corner is a stone.";
    /** A row of corners that makes 11 with the one at 10 9, and 12 with the one at 20 0. */
    private static final String ROW = "0 0 2 1 4 0 6 1 8 0 10 1 12 0 14 1 16 0 18 1";

    public static void main(String[] args) {
        numberOfPolygons();
        owners();
        numbersOfCorners();
        places();
        openOrClosed();
        lastSide();
        sidesByPlaces();
        onePoint();
        Due.end();
    }

    private static String triangles(int number) {
        StringBuilder text = new StringBuilder("field 30 2;");
        for (int k = 0; k < number; k++) {
            text.append("polygon ").append(k % 4).append(' ').append(k).append(" 0 ")
                    .append(k).append(" 1 ").append(k + 1).append(" 2;");
        }
        return text.toString();
    }

    private static void numberOfPolygons() {
        Due.sentence(3, NUMBER);
        Texts.dueGood(triangles(6), 6);
        Texts.dueErrorAt(CornerClaims.TOO_MANY, triangles(6) + "@polygon 0 20 0 21 0 20 1;");
        Due.sentence(7, NUMBER);
        CornerClaims six = Texts.loaded(triangles(6));
        for (int polygon = 0; polygon < 6; polygon++) {
            Due.answer("polygon(" + polygon + ", 0)", six.polygon(polygon, 0), polygon % 4);
        }
        Due.thrown("polygon(-1, 0)", IndexOutOfBoundsException.class, () -> six.polygon(-1, 0));
        Due.thrown("polygon(6, 0)", IndexOutOfBoundsException.class, () -> six.polygon(6, 0));
        Due.sentence(19, NUMBER);
        Due.thrown("begin of a 7th", IllegalStateException.class, () -> six.begin(0, 20, 0));
        CornerClaims claims = Texts.loaded("field 30 2;");
        for (int polygon = 0; polygon < 6; polygon++) {
            Due.answer("begin", claims.begin(0, polygon, 0), polygon);
        }
        Due.thrown("begin of a 7th", IllegalStateException.class, () -> claims.begin(0, 20, 0));
        claims.undo();
        Due.answer("begin after undo", claims.begin(0, 20, 0), 5);
        claims.remove(2);
        Due.answer("begin after remove", claims.begin(0, 21, 0), 5);
        Due.thrown("begin of a 7th", IllegalStateException.class, () -> claims.begin(0, 22, 0));
    }

    private static void owners() {
        Due.sentence(3, PARTS);
        Texts.dueErrorAt(CornerClaims.OUT_OF_RANGE, "field 9 9;polygon @4 0 0 1 0 0 1;");
        Due.sentence(7, PARTS);
        CornerClaims claims = Texts.loaded("field 9 9;polygon 0 0 0 1 0 0 1;polygon 3 3 3 4 3 3 4;");
        Due.answer("polygon(0, 0)", claims.polygon(0, 0), 0);
        Due.answer("polygon(1, 0)", claims.polygon(1, 0), 3);
        Due.sentence(19, PARTS);
        for (int player : new int[] {-1, 4, Integer.MIN_VALUE, Integer.MAX_VALUE}) {
            Due.thrown("begin(" + player + ", 9, 9)", IllegalArgumentException.class,
                    () -> claims.begin(player, 9, 9));
        }
        Due.answer("begin(0, 9, 9)", claims.begin(0, 9, 9), 2);
        Due.answer("polygon(2, 0)", claims.polygon(2, 0), 0);
        Due.answer("polygon(2, 1)", claims.polygon(2, 1), 1);
        Due.answer("begin(3, 9, 8)", claims.begin(3, 9, 8), 3);
        Due.answer("polygon(3, 0)", claims.polygon(3, 0), 3);
    }

    private static void numbersOfCorners() {
        Due.sentence(3, PARTS);
        Texts.dueGood("field 30 9;polygon 0 " + ROW + " 20 0 10 9;", 1);
        Texts.dueErrorAt(CornerClaims.REFUSED, "field 30 9;polygon 0 " + ROW + " 20 0 10 9 5 @9;");
        Due.sentence(20, PARTS);
        CornerClaims drawn = Texts.loaded("field 30 9;");
        drawn.begin(0, 0, 0);
        Due.answer("polygon(0, 1) of the shortest", drawn.polygon(0, 1), 1);
        for (int corners = 2; corners <= 12; corners++) {
            Due.answer("corner", drawn.corner(0, 2 * corners, corners % 2), corners);
        }
        Due.answer("corner, a 13th", drawn.corner(0, 30, 9), -2);
        Due.answer("polygon(0, 1) of the longest", drawn.polygon(0, 1), 12);
        Due.sentence(22, PARTS);
        CornerClaims bent = Texts.loaded("field 30 9;polygon 0 " + ROW + " 10 9;");
        Due.answer("bend to the 12th", bent.bend(0, 9, 20, 0) < 0 ? -1 : bent.polygon(0, 1), 12);
        Due.answer("bend to a 13th", bent.bend(0, 11, 1, 3), -2);
        Due.answer("polygon(0, 1) of the longest", bent.polygon(0, 1), 12);
        Due.sentence(23, PARTS);
        for (int corners = 11; corners >= 3; corners--) {
            Due.answer("takeOut of the first corner", bent.takeOut(0, 0) > 0 ? bent.polygon(0, 1) : -1,
                    corners);
        }
        Due.answer("takeOut of one of three", bent.takeOut(0, 0), -6);
    }

    private static void places() {
        Due.sentence(8, PARTS);
        CornerClaims claims = Texts.loaded("field 30 9;polygon 0 " + ROW + " 20 0 10 9;");
        for (int place = 0; place < 11; place++) {
            Due.answer("cornerAt(0, " + place + ")", claims.cornerAt(0, place), 200 * place + place % 2);
        }
        Due.answer("cornerAt(0, 11)", claims.cornerAt(0, 11), 1009);
        Due.thrown("cornerAt(0, -1)", NoSuchElementException.class, () -> claims.cornerAt(0, -1));
        Due.thrown("cornerAt(0, 12)", NoSuchElementException.class, () -> claims.cornerAt(0, 12));
        claims.begin(0, 30, 9);
        Due.answer("cornerAt(1, 0)", claims.cornerAt(1, 0), 3009);
        Due.thrown("cornerAt(1, 1)", NoSuchElementException.class, () -> claims.cornerAt(1, 1));
        Due.sentence(22, PARTS);
        Due.thrown("bend(0, -1, 5, 5)", NoSuchElementException.class, () -> claims.bend(0, -1, 5, 5));
        Due.thrown("bend(0, 12, 5, 5)", NoSuchElementException.class, () -> claims.bend(0, 12, 5, 5));
        Due.sentence(23, PARTS);
        Due.thrown("takeOut(0, -1)", NoSuchElementException.class, () -> claims.takeOut(0, -1));
        Due.thrown("takeOut(0, 12)", NoSuchElementException.class, () -> claims.takeOut(0, 12));
        Due.thrown("takeOut(1, 1)", NoSuchElementException.class, () -> claims.takeOut(1, 1));
    }

    private static void openOrClosed() {
        Due.sentence(7, "It is open or closed.");
        CornerClaims claims = new CornerClaims();
        claims.begin(0, 0, 0);
        Due.answer("polygon(0, 2) of one corner", claims.polygon(0, 2), 0);
        claims.corner(0, 2, 0);
        claims.corner(0, 0, 2);
        Due.answer("polygon(0, 2) of three corners", claims.polygon(0, 2), 0);
        claims.close(0);
        Due.answer("polygon(0, 2) then", claims.polygon(0, 2), 1);
        Due.answer("polygon(0, 2) of a setup's polygon",
                Texts.loaded("field 2 2;polygon 0 0 0 2 0 0 2;").polygon(0, 2), 1);
    }

    /** The last side goes from 1 7 to 1 1. */
    private static void lastSide() {
        CornerClaims claims = Texts.loaded("field 9 9;");
        Draw.open(claims, 0, 1, 1, 7, 1, 7, 7, 1, 7);
        Draw.open(claims, 1, 0, 4);
        Due.sentence(9, LAST_SIDE);
        Due.answer("reason across the gap", claims.reason(1, 2, 4), 0);
        Due.answer("reason in the gap", claims.reason(1, 1, 4), 0);
        Due.answer("reason across the first side", claims.reason(0, 3, 0), 5);
        claims.close(0);
        Due.answer("reason across the last side", claims.reason(1, 2, 4), 5);
        Due.answer("reason on the last side", claims.reason(1, 1, 4), 5);
        claims.undo();
        Due.sentence(19, LAST_SIDE);
        Due.answer("begin in the gap", claims.begin(0, 1, 4), 2);
        claims.undo();
        claims.close(0);
        Due.answer("begin on the last side", claims.begin(0, 1, 4), -3);
        Due.answer("begin on the first side", claims.begin(0, 4, 1), -3);
        Due.sentence(10, LAST_SIDE);
        Due.answer("where(0, 1, 4)", claims.where(0, 1, 4), 1);
        Due.answer("where(0, 2, 4)", claims.where(0, 2, 4), 2);
        Due.sentence(12, LAST_SIDE);
        Due.answer("border(0)", claims.border(0), 24);
        Due.sentence(3, LAST_SIDE);
        Texts.dueErrorAt(CornerClaims.REFUSED, "field 9 9;polygon 0 1 1 7 1 7 7 1 7;stone 1 @4 1;");
        Due.sentence(22, LAST_SIDE);
        Due.answer("bend of the last side", claims.bend(0, 3, 3, 3), 60);
    }

    private static void sidesByPlaces() {
        Due.sentence(22, "Side k of a closed polygon begins at its corner k.");
        int[][] points = {{4, 0}, {8, 4}, {4, 8}, {0, 4}};
        for (int side = 0; side < 4; side++) {
            CornerClaims claims = Texts.loaded("field 8 8;polygon 0 1 1 7 1 7 7 1 7;");
            int x = points[side][0];
            int y = points[side][1];
            Due.answer("bend(0, " + side + ", ..)", claims.bend(0, side, x, y), 78);
            Due.answer("cornerAt(0, " + (side + 1) + ")", claims.cornerAt(0, side + 1), 100 * x + y);
            Due.answer("cornerAt(0, 0)", claims.cornerAt(0, 0), 101);
            Due.answer("cornerAt(0, 4)", claims.cornerAt(0, 4), side == 3 ? 4 : 107);
        }
    }

    private static void onePoint() {
        Due.sentence(3, ONE_POINT);
        String start = "field 9 9;stone 8 8 1;polygon 0 1 1 3 1 1 3;";
        Texts.dueErrorAt(CornerClaims.REFUSED, start + "polygon 0 3 @1 5 1 5 3;");
        Texts.dueErrorAt(CornerClaims.REFUSED, start + "polygon 0 8 @8 5 1 5 3;");
        Texts.dueErrorAt(CornerClaims.REFUSED, start + "polygon 0 5 1 3 @1 5 3;");
        Texts.dueErrorAt(CornerClaims.REFUSED, start + "polygon 0 5 1 8 @8 5 3;");
        Texts.dueErrorAt(CornerClaims.REFUSED, start + "polygon 0 5 1 5 @1 5 3;");
        Texts.dueErrorAt(CornerClaims.REFUSED, start + "polygon 0 5 1 7 1 5 3 5 @1;");
        Texts.dueErrorAt(CornerClaims.REFUSED, start + "stone 3 @1 1;");
        Texts.dueErrorAt(CornerClaims.REFUSED, start + "stone 8 @8 1;");
        CornerClaims claims = Texts.loaded(start);
        claims.begin(1, 5, 1);
        claims.corner(1, 7, 1);
        int[][] taken = {{8, 8}, {1, 1}, {3, 1}, {1, 3}, {5, 1}, {7, 1}};
        for (int[] point : taken) {
            int x = point[0];
            int y = point[1];
            Due.sentence(19, ONE_POINT);
            Due.answer("begin(0, " + x + ", " + y + ")", claims.begin(0, x, y), -3);
            Due.sentence(9, ONE_POINT);
            Due.answer("reason(1, " + x + ", " + y + ")", claims.reason(1, x, y), 3);
            Due.sentence(20, ONE_POINT);
            Due.answer("corner(1, " + x + ", " + y + ")", claims.corner(1, x, y), -3);
            Due.sentence(22, ONE_POINT);
            Due.answer("bend(0, 1, " + x + ", " + y + ")", claims.bend(0, 1, x, y), -3);
        }
        Due.sentence(19, ONE_POINT);
        claims.remove(0);
        Due.answer("begin where a corner was", claims.begin(0, 3, 1), 1);
    }
}

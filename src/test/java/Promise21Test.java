/** Promise 21: close. */
final class Promise21Test {
    public static void main(String[] args) {
        claimed();
        refusals();
        afterTakeOut();
        wrongInputs();
        Due.end();
    }

    private static void path(CornerClaims claims, int polygon, int... points) {
        claims.begin(0, points[0], points[1]);
        for (int k = 2; k < points.length; k += 2) {
            Due.answer("corner", claims.corner(polygon, points[k], points[k + 1]), k / 2 + 1);
        }
    }

    private static void claimed() {
        CornerClaims claims = Texts.loaded(
                "field 9 9;stone 1 1 5;stone 2 1 5;stone 5 5 5;stone 9 9 5;polygon 1 4 4 6 4 6 6 4 6;");
        path(claims, 1, 0, 0, 7, 0, 7, 7, 0, 7);
        Due.answer("close", claims.close(1), 2);
        Due.answer("polygon(1, 2)", claims.polygon(1, 2), 1);
        Due.answer("polygon(1, 1)", claims.polygon(1, 1), 4);
        Due.answer("count(5)", claims.count(5), 3);
        Due.answer("area(1)", claims.area(1), 98);
        Due.answer("close again", claims.close(1), -1);
        Due.answer("undo()", claims.undo(), 6);
        Due.answer("undo()", claims.undo(), 5);
        Due.answer("polygon(1, 2)", claims.polygon(1, 2), 0);
        Due.answer("count(5)", claims.count(5), 1);
        Due.answer("close", claims.close(1), 2);
        path(claims, 2, 8, 8, 9, 8, 8, 9);
        Due.answer("close without stones", claims.close(2), 0);
    }

    private static void refusals() {
        CornerClaims claims = Texts.loaded("field 9 9;stone 3 3 5;");
        path(claims, 0, 0, 0);
        Due.answer("close of 1 corner", claims.close(0), -6);
        claims.corner(0, 6, 0);
        Due.answer("close of 2 corners", claims.close(0), -6);
        claims.corner(0, 6, 6);
        Due.answer("close across a stone", claims.close(0), -4);
        claims.corner(0, 5, 7);
        claims.corner(0, 2, 7);
        Due.answer("corner", claims.corner(0, 4, 2), 6);
        claims.corner(0, 1, 6);
        Due.answer("close beside the sides", claims.close(0), 1);
        claims.undo();
        claims.undo();
        claims.undo();
        Due.answer("corner", claims.corner(0, 5, 3), 6);
        Due.answer("corner", claims.corner(0, 3, 6), 7);
        Due.answer("close across its own side", claims.close(0), -5);
        Due.answer("it is open", claims.polygon(0, 2), 0);
        claims = new CornerClaims();
        path(claims, 0, 0, 0, 1, 0, 2, 0);
        Due.answer("close along its own sides", claims.close(0), -4);
        claims = Texts.loaded("field 9 9;");
        path(claims, 0, 0, 0, 4, 0, 4, 4);
        path(claims, 1, 1, 3, 3, 1);
        Due.answer("close across a side of another one", claims.close(0), -5);
        claims.undo();
        claims.undo();
        claims.undo();
        claims.begin(0, 2, 2);
        Due.answer("close across a corner of another one", claims.close(0), -4);
    }

    /** What was to go when a corner was to be taken out is in the way of the last side. */
    private static void afterTakeOut() {
        CornerClaims claims = Texts.loaded("field 10 10;stone 5 5 1;polygon 0 2 2 8 2 8 8 2 8;");
        path(claims, 1, 4, 1, 0, 1, 1, 4);
        Due.answer("takeOut", claims.takeOut(0, 0), -4);
        Due.answer("close across the corner's sides", claims.close(1), -5);
    }

    private static void wrongInputs() {
        CornerClaims claims = Texts.loaded("field 5 9;polygon 0 4 4 5 4 4 5;");
        for (int polygon : new int[] {-1, 1, 6, Integer.MIN_VALUE, Integer.MAX_VALUE}) {
            Due.thrown("close(" + polygon + ")", IndexOutOfBoundsException.class,
                    () -> claims.close(polygon));
        }
        Due.answer("close of a closed one", claims.close(0), -1);
        Due.answer("undo() of it", claims.undo(), 1);
    }
}

/** Promise 7: polygon. */
final class Promise07Test {
    public static void main(String[] args) {
        CornerClaims claims = Texts.loaded("field 9 9;polygon 3 0 0 4 0 0 4;polygon 2 9 9 9 5 6 6 5 9;");
        due(claims, 0, 3, 3, 1);
        due(claims, 1, 2, 4, 1);
        claims.begin(1, 5, 0);
        due(claims, 2, 1, 1, 0);
        claims.corner(2, 6, 0);
        claims.corner(2, 6, 2);
        due(claims, 2, 1, 3, 0);
        claims.close(2);
        due(claims, 2, 1, 3, 1);
        claims.bend(2, 0, 5, 1);
        Due.answer("the bend was refused or not", claims.polygon(2, 1), 3);
        claims.bend(1, 0, 8, 7);
        due(claims, 1, 2, 5, 1);
        claims.takeOut(1, 0);
        due(claims, 1, 2, 4, 1);
        claims.remove(0);
        due(claims, 0, 2, 4, 1);
        due(claims, 1, 1, 3, 1);
        for (int polygon : new int[] {-1, 2, 6, Integer.MIN_VALUE, Integer.MAX_VALUE}) {
            for (int what : new int[] {-1, 0, 3}) {
                Due.thrown("polygon(" + polygon + ", " + what + ")", IndexOutOfBoundsException.class,
                        () -> claims.polygon(polygon, what));
            }
        }
        for (int what : new int[] {-1, 3, Integer.MIN_VALUE, Integer.MAX_VALUE}) {
            Due.thrown("polygon(0, " + what + ")", IllegalArgumentException.class,
                    () -> claims.polygon(0, what));
        }
        Due.end();
    }

    private static void due(CornerClaims claims, int polygon, int... due) {
        for (int what = 0; what < due.length; what++) {
            Due.answer("polygon(" + polygon + ", " + what + ")", claims.polygon(polygon, what), due[what]);
        }
    }
}

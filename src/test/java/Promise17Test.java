/** Promise 17: points. */
final class Promise17Test {
    public static void main(String[] args) {
        CornerClaims claims = Texts.loaded("field 20 9;stone 1 1 50;polygon 2 0 0 4 0 0 4;"
                + "polygon 1 6 0 8 0 8 2 6 2;polygon 2 10 0 13 0 13 3 10 3;");
        due(claims, 0, 8, 84, 0);
        claims.begin(2, 15, 0);
        claims.corner(3, 20, 0);
        claims.corner(3, 20, 5);
        due(claims, 0, 8, 84, 0);
        claims.close(3);
        due(claims, 0, 8, 109, 0);
        claims.remove(0);
        due(claims, 0, 8, 43, 0);
        for (int player : new int[] {-1, 4, 5, Integer.MIN_VALUE, Integer.MAX_VALUE}) {
            Due.thrown("points(" + player + ")", IllegalArgumentException.class,
                    () -> claims.points(player));
        }
        // The limit is one of each score, and not of the sum.
        String score = "score 9999*99-area*1000;";
        due(Texts.loaded("field 9 9;polygon 3 0 0 1 0 0 1;polygon 3 4 4 5 4 4 5;polygon 0 8 8 9 8 9 9;"
                + score), 99999, 0, 0, 199998);
        due(Texts.loaded("field 9 9;polygon 3 0 0 1 0 0 1;polygon 3 4 4 5 4 4 5;"
                + "score 0-9999*99;"), 0, 0, 0, -199998);
        Due.end();
    }

    private static void due(CornerClaims claims, int... points) {
        for (int player = 0; player < points.length; player++) {
            Due.answer("points(" + player + ")", claims.points(player), points[player]);
        }
    }
}

/** Promise 5: count. */
final class Promise05Test {
    private static final String SETUP = "field 12 9;stone 1 1 5;stone 3 3 6;stone 9 9 7;stone 11 8 1;"
            + "polygon 0 0 0 6 0 6 6 0 6;polygon 1 2 2 4 2 4 4 2 4;";

    public static void main(String[] args) {
        CornerClaims claims = Texts.loaded(SETUP);
        due(claims, 12, 9, 4, 2, 2, 2);
        claims.begin(0, 8, 8);
        due(claims, 12, 9, 4, 3, 2, 2);
        claims.corner(2, 10, 8);
        claims.corner(2, 9, 0);
        due(claims, 12, 9, 4, 3, 2, 2);
        claims.close(2);
        due(claims, 12, 9, 4, 3, 3, 2);
        claims.bend(2, 0, 10, 9);
        claims.takeOut(2, 1);
        due(claims, 12, 9, 4, 3, 3, 2);
        claims.remove(0);
        due(claims, 12, 9, 4, 2, 2, 1);
        for (int what : new int[] {-1, 6, 7, Integer.MIN_VALUE, Integer.MAX_VALUE}) {
            Due.thrown("count(" + what + ")", IllegalArgumentException.class, () -> claims.count(what));
        }
        Due.end();
    }

    private static void due(CornerClaims claims, int... counts) {
        for (int what = 0; what < counts.length; what++) {
            Due.answer("count(" + what + ")", claims.count(what), counts[what]);
        }
    }
}

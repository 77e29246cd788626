import java.util.NoSuchElementException;

/** Promise 6: stone. */
final class Promise06Test {
    public static void main(String[] args) {
        claims();
        wrongInputs();
        nestings();
        Due.end();
    }

    private static void due(CornerClaims claims, int stone, int... due) {
        for (int what = 0; what < due.length; what++) {
            Due.answer("stone(" + stone + ", " + what + ")", claims.stone(stone, what), due[what]);
        }
    }

    private static void claims() {
        CornerClaims claims = Texts.loaded("field 12 9;stone 1 2 5;stone 3 4 99;stone 12 9 1;"
                + "polygon 0 0 0 6 0 6 6 0 6;polygon 1 2 2 4 3 4 5 2 5;");
        due(claims, 0, 1, 2, 5, 0);
        due(claims, 1, 3, 4, 99, 1);
        due(claims, 2, 12, 9, 1, -1);
        claims.remove(0);
        due(claims, 0, 1, 2, 5, -1);
        due(claims, 1, 3, 4, 99, 0);
        // An open polygon claims nothing.
        claims.begin(0, 0, 0);
        claims.corner(1, 12, 0);
        claims.corner(1, 0, 9);
        due(claims, 0, 1, 2, 5, -1);
        claims.close(1);
        due(claims, 0, 1, 2, 5, 1);
    }

    private static void wrongInputs() {
        CornerClaims claims = Texts.loaded("field 12 9;stone 1 2 5;");
        for (int stone : new int[] {-1, 1, 20, Integer.MIN_VALUE, Integer.MAX_VALUE}) {
            for (int what : new int[] {-1, 0, 3, 4}) {
                Due.thrown("stone(" + stone + ", " + what + ")", NoSuchElementException.class,
                        () -> claims.stone(stone, what));
            }
        }
        for (int what : new int[] {-1, 4, Integer.MIN_VALUE, Integer.MAX_VALUE}) {
            Due.thrown("stone(0, " + what + ")", IllegalArgumentException.class,
                    () -> claims.stone(0, what));
        }
    }

    private static void nestings() {
        // The smallest is neither the first nor the last one.
        CornerClaims claims = Texts.loaded("field 12 12;stone 6 6 5;polygon 0 3 3 9 3 9 9 3 9;"
                + "polygon 1 4 4 8 4 8 8 4 8;polygon 2 0 0 12 0 12 12 0 12;");
        Due.answer("stone(0, 3) in three", claims.stone(0, 3), 1);
        claims.bend(1, 0, 6, 7);
        Due.answer("stone(0, 3) outside of the smallest", claims.stone(0, 3), 0);
        claims.undo();
        Due.answer("stone(0, 3) after undo", claims.stone(0, 3), 1);
        claims.remove(1);
        Due.answer("stone(0, 3) in two", claims.stone(0, 3), 0);
        claims.bend(0, 0, 6, 7);
        Due.answer("stone(0, 3) after the bend", claims.stone(0, 3), 1);
    }
}

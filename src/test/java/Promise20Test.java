/** Promise 20: corner. */
final class Promise20Test {
    public static void main(String[] args) {
        grows();
        refusals();
        afterOtherChanges();
        wrongInputs();
        Due.end();
    }

    private static void grows() {
        CornerClaims claims = Texts.loaded("field 30 9;");
        claims.begin(1, 0, 0);
        for (int k = 1; k < 12; k++) {
            Due.answer("corner", claims.corner(0, 2 * k, k % 2), k + 1);
            Due.answer("cornerAt(0, " + k + ")", claims.cornerAt(0, k), 200 * k + k % 2);
            Due.answer("polygon(0, 1)", claims.polygon(0, 1), k + 1);
            Due.answer("polygon(0, 2)", claims.polygon(0, 2), 0);
        }
        Due.answer("a 13th corner", claims.corner(0, 28, 9), -2);
        Due.answer("polygon(0, 1)", claims.polygon(0, 1), 12);
        Due.answer("the first corner stays", claims.cornerAt(0, 0), 0);
        Due.answer("undo() of the refused one", claims.undo(), 7);
        Due.answer("undo()", claims.undo(), 6);
        Due.answer("polygon(0, 1)", claims.polygon(0, 1), 11);
    }

    private static void refusals() {
        CornerClaims claims = Texts.loaded("field 9 9;stone 5 5 9;polygon 1 0 0 4 0 0 4;");
        claims.begin(1, 5, 3);
        long sum = claims.checksum();
        Due.answer("corner of a closed polygon", claims.corner(0, 9, 9), -1);
        Due.answer("corner on a stone", claims.corner(1, 5, 5), -3);
        Due.answer("corner on a corner", claims.corner(1, 4, 0), -3);
        Due.answer("corner on itself", claims.corner(1, 5, 3), -3);
        Due.answer("corner behind a stone", claims.corner(1, 5, 7), -4);
        Due.answer("corner across a side", claims.corner(1, 1, 1), -5);
        Due.answer("corner on a side", claims.corner(1, 3, 1), -5);
        Due.answer("nothing is changed", claims.checksum(), sum);
        for (int k = 6; k >= 0; k--) {
            Due.answer("undo() of a refused one", claims.undo(), k + 1);
        }
        Due.answer("nothing is changed", claims.checksum(), sum);
        Due.answer("corner", claims.corner(1, 5, 4), 2);
        Due.answer("a point of the field's end", claims.corner(1, 9, 9), 3);
    }

    /** What went when a side was bent or a corner taken out is in the way of a corner. */
    private static void afterOtherChanges() {
        CornerClaims claims = Texts.loaded("field 10 10;polygon 0 2 2 8 2 8 8 2 8;");
        claims.begin(1, 5, 1);
        Due.answer("bend", claims.bend(0, 0, 9, 5), -5);
        Due.answer("corner across the side", claims.corner(1, 5, 3), -5);
        claims.begin(1, 9, 5);
        claims.begin(1, 9, 1);
        Due.answer("takeOut", claims.takeOut(0, 0), 36);
        Due.answer("corner across a side", claims.corner(2, 7, 6), -5);
        Due.answer("corner across a corner", claims.corner(3, 7, 3), -4);
    }

    private static void wrongInputs() {
        CornerClaims claims = Texts.loaded("field 5 9;polygon 0 4 4 5 4 4 5;");
        claims.begin(0, 0, 0);
        long sum = claims.checksum();
        for (int polygon : new int[] {-1, 2, 6, Integer.MIN_VALUE, Integer.MAX_VALUE}) {
            Due.thrown("corner(" + polygon + ", 6, 1)", IndexOutOfBoundsException.class,
                    () -> claims.corner(polygon, 6, 1));
        }
        int[][] points = {{-1, 0}, {0, -1}, {6, 0}, {0, 10}, {9, 5}, {Integer.MAX_VALUE, 0},
            {0, Integer.MIN_VALUE}};
        for (int[] point : points) {
            for (int polygon = 0; polygon < 2; polygon++) {
                int p = polygon;
                Due.thrown("corner(" + p + ", " + point[0] + ", " + point[1] + ")",
                        IllegalArgumentException.class, () -> claims.corner(p, point[0], point[1]));
            }
        }
        Due.answer("checksum() is as before", claims.checksum(), sum);
        Due.answer("undo() knows load and begin", claims.undo(), 1);
    }
}

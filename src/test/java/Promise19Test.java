/** Promise 19: begin. */
final class Promise19Test {
    public static void main(String[] args) {
        CornerClaims claims = Texts.loaded("field 9 8;stone 7 7 5;polygon 1 0 0 4 0 0 4;");
        Due.answer("begin on a stone", claims.begin(0, 7, 7), -3);
        Due.answer("begin on a corner", claims.begin(0, 4, 0), -3);
        Due.answer("begin on a side", claims.begin(0, 2, 2), -3);
        Due.answer("begin on the last side", claims.begin(0, 0, 1), -3);
        Due.answer("no polygon was begun", claims.count(3), 1);
        Due.answer("begin inside", claims.begin(3, 1, 1), 1);
        Due.answer("its owner", claims.polygon(1, 0), 3);
        Due.answer("its corners", claims.polygon(1, 1), 1);
        Due.answer("it is open", claims.polygon(1, 2), 0);
        Due.answer("its corner", claims.cornerAt(1, 0), 101);
        Due.answer("begin on a lone corner", claims.begin(0, 1, 1), -3);
        Due.answer("corner", claims.corner(1, 1, 2), 2);
        claims.corner(1, 2, 1);
        // The side that would close an open polygon is not one yet.
        Due.answer("begin at the field's end", claims.begin(0, 9, 8), 2);
        Due.answer("begin", claims.begin(0, 9, 0), 3);
        claims.corner(3, 7, 2);
        Due.answer("begin on a side of an open polygon", claims.begin(0, 8, 1), -3);
        Due.answer("begin", claims.begin(2, 9, 1), 4);
        Due.answer("begin", claims.begin(2, 9, 2), 5);
        for (int[] point : new int[][] {{5, 5}, {7, 7}, {0, 0}}) {
            Due.thrown("begin of a 7th", IllegalStateException.class,
                    () -> claims.begin(2, point[0], point[1]));
        }
        wrongInputs(claims);
        claims.remove(5);
        wrongInputs(claims);
        Due.answer("begin again", claims.begin(2, 9, 3), 5);
        changes();
        Due.end();
    }

    private static void wrongInputs(CornerClaims claims) {
        int[][] wrong = {{-1, 5, 5}, {4, 5, 5}, {0, -1, 5}, {0, 10, 5}, {0, 5, -1}, {0, 5, 9},
            {Integer.MIN_VALUE, 5, 5}, {Integer.MAX_VALUE, 5, 5}, {0, Integer.MAX_VALUE, 5},
            {0, 5, Integer.MIN_VALUE}};
        long sum = claims.checksum();
        for (int[] call : wrong) {
            Due.thrown("begin(" + call[0] + ", " + call[1] + ", " + call[2] + ")",
                    IllegalArgumentException.class, () -> claims.begin(call[0], call[1], call[2]));
        }
        Due.answer("checksum() is as before", claims.checksum(), sum);
    }

    /** A call that answers is a change, and one that throws is none. */
    private static void changes() {
        CornerClaims claims = new CornerClaims();
        claims.begin(0, 1, 1);
        claims.begin(0, 1, 1);
        Due.thrown("begin(0, 3, 3)", IllegalArgumentException.class, () -> claims.begin(0, 3, 3));
        Due.answer("undo() of the refused one", claims.undo(), 1);
        Due.answer("count(3)", claims.count(3), 1);
        Due.answer("undo() of the first one", claims.undo(), 0);
        Due.answer("count(3)", claims.count(3), 0);
        for (int k = 0; k < 6; k++) {
            claims.begin(0, k / 3, k % 3);
        }
        Due.thrown("begin of a 7th", IllegalStateException.class, () -> claims.begin(0, 2, 2));
        Due.answer("undo()", claims.undo(), 5);
    }
}

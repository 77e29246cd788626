/** Promise 10: where. */
final class Promise10Test {
    public static void main(String[] args) {
        // A row for each y from 10 down to 0: where(0, x, y) for x from 0 to 10.
        map("field 10 10;polygon 0 2 1 8 1 8 9 5 3 2 9;",
                "00000000000",
                "00100000100",
                "00100000100",
                "00110001100",
                "00120002100",
                "00121012100",
                "00122022100",
                "00122122100",
                "00122222100",
                "00111111100",
                "00000000000");
        map("field 10 10;polygon 0 0 0 0 4 1 4 1 1 3 1 3 4 5 4 5 1 10 1 10 0;",
                "00000000000",
                "00000000000",
                "00000000000",
                "00000000000",
                "00000000000",
                "00000000000",
                "11011100000",
                "11012100000",
                "11012100000",
                "11112111111",
                "11111111111");
        map("field 4 4;polygon 0 0 2 2 0 4 2 2 4;",
                "00100",
                "01210",
                "12221",
                "01210",
                "00100");
        map("field 4 4;polygon 0 2 4 4 2 2 0 0 2;",
                "00100",
                "01210",
                "12221",
                "01210",
                "00100");
        map("field 10 10;polygon 0 2 9 5 3 8 9 8 1 2 1;",
                "00000000000",
                "00100000100",
                "00100000100",
                "00110001100",
                "00120002100",
                "00121012100",
                "00122022100",
                "00122122100",
                "00122222100",
                "00111111100",
                "00000000000");
        // Points that are next to slanted sides of both senses.
        map("field 7 4;polygon 0 0 0 7 3 6 4;",
                "00000010",
                "00000221",
                "00012000",
                "00200000",
                "10000000");
        map("field 7 4;polygon 0 6 4 7 3 0 0;",
                "00000010",
                "00000221",
                "00012000",
                "00200000",
                "10000000");
        map("field 7 4;polygon 0 7 0 0 3 1 4;",
                "01000000",
                "12200000",
                "00021000",
                "00000200",
                "00000001");
        map("field 7 4;polygon 0 1 4 0 3 7 0;",
                "01000000",
                "12200000",
                "00021000",
                "00000200",
                "00000001");
        wrongInputs();
        Due.end();
    }

    private static void map(String setup, String... rows) {
        CornerClaims claims = Texts.loaded(setup);
        for (int y = 0; y < rows.length; y++) {
            String row = rows[rows.length - 1 - y];
            for (int x = 0; x < row.length(); x++) {
                Due.answer("where(0, " + x + ", " + y + ") of " + setup, claims.where(0, x, y),
                        row.charAt(x) - '0');
            }
        }
    }

    private static void wrongInputs() {
        CornerClaims claims = Texts.loaded("field 5 9;polygon 0 0 0 1 0 0 1;");
        claims.begin(0, 5, 5);
        Due.thrown("where of an open polygon", IllegalStateException.class, () -> claims.where(1, 5, 5));
        Due.thrown("where of a point that is none", IllegalArgumentException.class,
                () -> claims.where(1, 6, 5));
        for (int polygon : new int[] {-1, 2, Integer.MIN_VALUE, Integer.MAX_VALUE}) {
            Due.thrown("where(" + polygon + ", 6, 5)", IndexOutOfBoundsException.class,
                    () -> claims.where(polygon, 6, 5));
        }
        int[][] points = {{-1, 0}, {0, -1}, {6, 0}, {0, 10}, {Integer.MIN_VALUE, 0},
            {0, Integer.MAX_VALUE}};
        for (int[] point : points) {
            Due.thrown("where(0, " + point[0] + ", " + point[1] + ")", IllegalArgumentException.class,
                    () -> claims.where(0, point[0], point[1]));
        }
        Due.answer("where(0, 5, 9)", claims.where(0, 5, 9), 0);
    }
}

/** Promise 26: checksum. */
final class Promise26Test {
    public static void main(String[] args) {
        Due.answer("checksum() of a new object", new CornerClaims().checksum(), 0);
        due(Texts.loaded("field 9 9;stone 8 8 5;stone 1 1 6;"), -1, -1, 0, 0, 0, 0);
        CornerClaims claims = Texts.loaded("field 9 9;stone 8 8 5;stone 1 1 6;polygon 2 0 0 4 0 0 4;");
        due(claims, 2, 1, 0, 400, 4, -1, 0, 0, 0, 22, 0);
        claims.begin(1, 9, 7);
        due(claims, 2, 1, 0, 400, 4, 1, 0, 907, -1, 0, 0, 0, 22, 0);
        claims.corner(1, 6, 9);
        claims.corner(1, 9, 9);
        due(claims, 2, 1, 0, 400, 4, 1, 0, 907, 609, 909, -1, 0, 0, 0, 22, 0);
        claims.close(1);
        due(claims, 2, 1, 0, 400, 4, 1, 1, 907, 609, 909, 1, 0, 0, 11, 22, 0);
        claims.remove(0);
        due(claims, 1, 1, 907, 609, 909, 0, -1, 0, 11, 0, 0);
        due(Texts.loaded("field 9 9;polygon 3 0 0 4 0 0 4;score 0-9999*11;"),
                3, 1, 0, 400, 4, 0, 0, 0, -99999);
        due(Texts.loaded("field 9 9;polygon 3 0 0 4 0 4 4 0 4;polygon 0 9 9 9 8 8 8;polygon 1 9 0 8 0 9 1;"
                + "score area*5;"),
                3, 1, 0, 400, 404, 4, 0, 1, 909, 908, 808, 1, 1, 900, 800, 901, 5, 5, 0, 160);
        Due.end();
    }

    private static void due(CornerClaims claims, long... numbers) {
        long sum = 0;
        for (long number : numbers) {
            sum = 31 * sum + number;
        }
        Due.answer("checksum() of " + java.util.Arrays.toString(numbers), claims.checksum(), sum);
    }
}

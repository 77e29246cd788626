/** Promise 18: leader. */
final class Promise18Test {
    public static void main(String[] args) {
        Due.answer("leader() of a new object", new CornerClaims().leader(), 0);
        for (int player = 0; player <= 3; player++) {
            due("polygon " + player + " 0 0 1 0 0 1;", player);
            due("polygon " + player + " 0 0 2 0 0 1;polygon " + (3 - player) + " 4 4 5 4 4 5;", player);
        }
        // Of several with the same points the smallest; one without polygons has 0.
        due("polygon 3 0 0 1 0 0 1;polygon 1 4 4 5 4 4 5;polygon 2 6 6 7 6 6 7;", 1);
        due("polygon 0 0 0 1 0 0 1;score 0-area;", 1);
        due("polygon 0 0 0 1 0 0 1;polygon 1 4 4 5 4 4 5;score 0-area;", 2);
        due("polygon 0 0 0 1 0 0 1;polygon 1 4 4 5 4 4 5;polygon 2 6 6 7 6 6 7;score 0-area;", 3);
        due("polygon 0 0 0 1 0 0 1;polygon 1 4 4 5 4 4 5;polygon 2 6 6 7 6 6 7;"
                + "polygon 3 8 8 9 8 8 9;score 0-area;", 0);
        due("polygon 0 0 0 1 0 0 2;polygon 1 4 4 5 4 4 6;polygon 2 6 6 7 6 6 7;"
                + "polygon 3 8 8 9 8 8 9;score 0-area;", 2);
        due("polygon 3 0 0 1 0 0 1;polygon 2 4 4 5 4 4 5;polygon 3 6 6 7 6 6 7;", 3);
        Due.end();
    }

    private static void due(String statements, int leader) {
        Due.answer("leader() of " + statements, Texts.loaded("field 9 9;" + statements).leader(), leader);
    }
}

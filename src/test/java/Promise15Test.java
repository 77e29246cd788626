/** Promise 15: parent. */
final class Promise15Test {
    public static void main(String[] args) {
        Figures.exceptions("parent", CornerClaims::parent);
        nested();
        beside();
        changes();
        Due.end();
    }

    private static void due(CornerClaims claims, int... parents) {
        for (int k = 0; k < parents.length; k++) {
            Due.answer("parent(" + k + ")", claims.parent(k), parents[k]);
        }
    }

    private static void nested() {
        due(Texts.loaded("field 12 12;polygon 0 3 3 9 3 9 9 3 9;polygon 1 5 5 7 5 7 7 5 7;"
                + "polygon 2 0 0 12 0 12 12 0 12;polygon 3 4 4 8 4 8 8 4 8;polygon 0 1 1 2 1 1 2;"),
                2, 3, -1, 0, 2);
        due(Texts.loaded("field 12 12;polygon 0 0 6 6 0 12 6 6 12;polygon 1 6 2 9 6 6 7;"), -1, 0);
        due(Texts.loaded("field 12 12;polygon 0 0 6 6 0 12 6 6 12;polygon 1 9 6 6 2 6 7;"), -1, 0);
        due(Texts.loaded("field 12 12;polygon 0 0 0 12 0 12 12 0 12;polygon 0 1 1 11 1 11 11 1 11;"
                + "polygon 0 2 2 10 2 10 10 2 10;polygon 0 3 3 9 3 9 9 3 9;"
                + "polygon 0 4 4 8 4 8 8 4 8;polygon 0 5 5 7 5 7 7 5 7;"),
                -1, 0, 1, 2, 3, 4);
    }

    private static void beside() {
        // A small one in the hollow of a great one, and two beside one another in a third one.
        due(Texts.loaded("field 12 12;polygon 0 1 1 11 1 11 11 6 2 1 11;polygon 1 5 9 7 9 6 7;"
                + "polygon 2 0 0 12 0 12 12 0 12;"),
                2, 2, -1);
        due(Texts.loaded("field 12 12;polygon 0 1 1 2 1 1 2;polygon 0 4 4 5 4 4 5;"), -1, -1);
    }

    private static void changes() {
        CornerClaims claims = Texts.loaded("field 12 12;polygon 0 5 5 7 5 7 7 5 7;");
        claims.begin(1, 1, 1);
        claims.corner(1, 11, 1);
        claims.corner(1, 11, 11);
        claims.corner(1, 1, 11);
        Due.answer("parent(0) in an open polygon", claims.parent(0), -1);
        claims.close(1);
        due(claims, 1, -1);
        // The side 0 goes round the small one, so that this is outside.
        Due.answer("bend", claims.bend(1, 0, 6, 9), 120);
        due(claims, -1, -1);
        claims.undo();
        claims.remove(0);
        claims.begin(1, 6, 2);
        claims.corner(1, 7, 2);
        claims.corner(1, 6, 3);
        claims.close(1);
        due(claims, -1, 0);
        claims.bend(0, 0, 6, 5);
        due(claims, -1, -1);
        claims.takeOut(0, 1);
        due(claims, -1, 0);
        claims.remove(0);
        due(claims, -1);
    }
}

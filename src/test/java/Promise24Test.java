/** Promise 24: remove. */
final class Promise24Test {
    public static void main(String[] args) {
        CornerClaims claims = Texts.loaded("field 12 12;stone 6 6 5;stone 1 1 6;stone 4 4 7;"
                + "polygon 0 3 3 9 3 9 9 3 9;polygon 1 5 5 7 5 7 7 5 7;polygon 2 0 0 12 0 12 12 0 12;");
        claims.begin(3, 12, 0);
        Due.answer("begin on a corner", claims.count(3), 3);
        claims.begin(3, 2, 6);
        Due.answer("remove of an open one", claims.remove(3), 3);
        Due.answer("remove of the one in the middle", claims.remove(1), 3);
        due(claims, 0, 303, 1);
        due(claims, 1, 0, 1);
        Due.answer("polygon(1, 0)", claims.polygon(1, 0), 2);
        Due.answer("stone(0, 3)", claims.stone(0, 3), 0);
        Due.answer("parent(0)", claims.parent(0), 1);
        Due.answer("remove of the last one", claims.remove(1), 2);
        Due.answer("stone(1, 3)", claims.stone(1, 3), -1);
        Due.answer("remove of the only one", claims.remove(0), 0);
        Due.answer("count(3)", claims.count(3), 0);
        Due.answer("undo()", claims.undo(), 6);
        Due.answer("undo()", claims.undo(), 5);
        Due.answer("undo()", claims.undo(), 4);
        due(claims, 0, 303, 1);
        due(claims, 1, 505, 1);
        due(claims, 2, 0, 1);
        Due.answer("remove of the first one", claims.remove(0), 3);
        due(claims, 0, 505, 1);
        due(claims, 1, 0, 1);
        Due.answer("stone(2, 3)", claims.stone(2, 3), 1);
        Due.answer("its place is free", claims.begin(0, 3, 3), 2);
        for (int polygon : new int[] {-1, 3, 6, Integer.MIN_VALUE, Integer.MAX_VALUE}) {
            Due.thrown("remove(" + polygon + ")", IndexOutOfBoundsException.class,
                    () -> claims.remove(polygon));
        }
        Due.answer("undo()", claims.undo(), 5);
        Due.end();
    }

    private static void due(CornerClaims claims, int polygon, int firstCorner, int closed) {
        Due.answer("cornerAt(" + polygon + ", 0)", claims.cornerAt(polygon, 0), firstCorner);
        Due.answer("polygon(" + polygon + ", 2)", claims.polygon(polygon, 2), closed);
    }
}

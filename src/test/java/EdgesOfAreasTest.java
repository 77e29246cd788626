/** The sentences under "Areas" that name a boundary, but for the scores. */
final class EdgesOfAreasTest {
    private static final String CLOSED = "The following is told of closed polygons.";
    private static final String TWICE =
            "The area is told twice as great as it is, so that it is an integer.";
    private static final String SITUATION =
            "A point of the field is outside of the polygon, on its border (on a side), or inside.";
    private static final String DENT =
            "A dent is a corner at which the inside has an angle greater than a straight one.";
    private static final String CONTAINS =
            "A polygon contains another closed one if all points of the sides of the latter are inside"
            + " the former.";
    private static final String PARENT =
            "The parent of a closed polygon is the one with the smallest area that contains it.";
    private static final String CLAIM =
            "A stone is claimed by the closed polygon with the smallest area inside of which it is.";
    private static final String SIX = "field 12 12;polygon 0 5 5 7 5 7 7 5 7;polygon 1 0 0 12 0 12 12 0 12;"
            + "polygon 2 4 4 8 4 8 8 4 8;polygon 3 1 1 11 1 11 11 1 11;polygon 0 3 3 9 3 9 9 3 9;"
            + "polygon 1 2 2 10 2 10 10 2 10;";

    public static void main(String[] args) {
        closedOnly();
        areas();
        situations();
        pointsOnBorderAndInside();
        straightCorners();
        dentsInAllPlaces();
        containing();
        noParent();
        parents();
        claims();
        claimsAfterChanges();
        Due.end();
    }

    private static void closedOnly() {
        CornerClaims claims = Texts.loaded("field 12 12;stone 6 6 5;");
        Draw.open(claims, 2, 1, 1, 11, 1, 11, 11, 1, 11);
        Due.sentence(10, CLOSED);
        Due.thrown("where", IllegalStateException.class, () -> claims.where(0, 5, 5));
        Due.sentence(11, CLOSED);
        Due.thrown("area", IllegalStateException.class, () -> claims.area(0));
        Due.sentence(12, CLOSED);
        Due.thrown("border", IllegalStateException.class, () -> claims.border(0));
        Due.sentence(13, CLOSED);
        Due.thrown("inner", IllegalStateException.class, () -> claims.inner(0));
        Due.sentence(14, CLOSED);
        Due.thrown("dents", IllegalStateException.class, () -> claims.dents(0));
        Due.sentence(15, CLOSED);
        Due.thrown("parent", IllegalStateException.class, () -> claims.parent(0));
        Due.sentence(16, CLOSED);
        Due.thrown("score", IllegalStateException.class, () -> claims.score(0));
        Due.sentence(17, CLOSED);
        Due.answer("points(2)", claims.points(2), 0);
        Due.sentence(6, CLOSED);
        Due.answer("stone(0, 3)", claims.stone(0, 3), -1);
        Due.sentence(5, CLOSED);
        Due.answer("count(4)", claims.count(4), 0);
        Due.answer("count(5)", claims.count(5), 0);
        claims.close(0);
        Due.answer("count(4) then", claims.count(4), 1);
        Due.answer("count(5) then", claims.count(5), 1);
        Due.sentence(17, CLOSED);
        Due.answer("points(2) then", claims.points(2), 205);
    }

    private static void area(String corners, int due) {
        Due.answer("area of " + corners, Texts.loaded("field 30 30;polygon 0 " + corners + ";").area(0), due);
    }

    private static void areas() {
        Due.sentence(11, TWICE);
        area("0 0 1 0 0 1", 1);
        area("0 1 1 0 0 0", 1);
        area("30 30 0 29 1 29", 1);
        area("0 0 1 0 1 1 0 1", 2);
        area("0 0 30 0 30 30 0 30", 1800);
        area("0 30 30 30 30 0 0 0", 1800);
        area("0 0 30 1 29 30", 871);
        CornerClaims claims = Texts.loaded("field 30 30;polygon 0 0 0 30 0 30 30 0 30;");
        Due.sentence(22, TWICE);
        Due.answer("bend", claims.bend(0, 0, 15, 1), 1770);
        Due.sentence(23, TWICE);
        Due.answer("takeOut", claims.takeOut(0, 2), 1320);
        Due.answer("area(0) is the same", claims.area(0), 1320);
        claims = Texts.loaded("field 30 30;polygon 0 0 0 1 0 1 1 0 1;");
        Due.answer("takeOut", claims.takeOut(0, 3), 1);
    }

    /** Rows for y from the height down to 0: what where answers for x from 0 on. */
    private static void map(String corners, String... rows) {
        int height = rows.length - 1;
        String setup = "field " + (rows[0].length() - 1) + " " + height + ";polygon 0 " + corners + ";";
        CornerClaims claims = Texts.loaded(setup);
        for (int y = 0; y <= height; y++) {
            for (int x = 0; x < rows[0].length(); x++) {
                Due.answer("where(0, " + x + ", " + y + ") of " + corners, claims.where(0, x, y),
                        rows[height - y].charAt(x) - '0');
            }
        }
    }

    private static void situations() {
        Due.sentence(10, SITUATION);
        map("0 0 1 0 0 1", "000", "100", "110");
        map("0 0 4 0 4 2 0 2", "11111", "12221", "11111");
        map("1 1 3 1 3 3 1 3", "00000", "01110", "01210", "01110", "00000");
        // Corners at the height of the points inside, at which a ray grazes or crosses the sides.
        map("3 0 6 2 3 4 0 2", "0001000", "0022200", "1222221", "0022200", "0001000");
        map("0 0 2 2 4 0 6 2 6 4 0 4", "1111111", "1222221", "1212221", "1101210", "1000100");
        map("0 4 2 2 4 4 6 2 6 0 0 0", "1000100", "1101210", "1212221", "1222221", "1111111");
        // A side along the ray, with the sides beside it to one side and to both sides.
        map("0 0 6 0 6 4 4 4 4 2 2 2 2 4 0 4", "1110111", "1210121", "1211121", "1222221", "1111111");
        map("0 0 4 0 4 2 6 2 6 4 2 4 2 2 0 2", "0011111", "0012221", "1112111", "1222100", "1111100");
        map("0 2 2 2 2 0 6 0 6 2 4 2 4 4 0 4", "1111100", "1222100", "1112111", "0012221", "0011111");
    }

    private static void counts(String corners, int border, int inner) {
        CornerClaims claims = Texts.loaded("field 30 30;polygon 0 " + corners + ";");
        Due.sentence(12, SITUATION);
        Due.answer("border of " + corners, claims.border(0), border);
        Due.sentence(13, SITUATION);
        Due.answer("inner of " + corners, claims.inner(0), inner);
    }

    private static void pointsOnBorderAndInside() {
        counts("0 0 1 0 0 1", 3, 0);
        counts("0 0 2 0 0 2", 6, 0);
        counts("0 0 3 0 0 3", 9, 1);
        counts("0 0 2 1 1 2", 3, 1);
        counts("0 0 30 0 30 30 0 30", 120, 841);
        counts("30 0 30 30 0 30 0 0", 120, 841);
        counts("0 0 30 0 30 30", 90, 406);
        counts("0 0 1 0 1 30 0 30", 62, 0);
        counts("0 0 29 30 30 30", 32, 0);
        counts("0 0 30 29 29 30", 3, 29);
        counts("0 0 15 0 30 0 30 30 0 30", 120, 841);
    }

    private static void dents(String corners, int due) {
        Due.answer("dents of " + corners, Texts.loaded("field 30 30;polygon 0 " + corners + ";").dents(0),
                due);
    }

    private static void straightCorners() {
        Due.sentence(14, DENT);
        dents("0 0 4 0 0 4", 0);
        dents("0 4 4 0 0 0", 0);
        dents("0 0 2 0 4 0 4 4 0 4", 0);
        dents("2 0 4 0 4 4 0 4 0 0", 0);
        dents("0 0 4 0 4 4 0 4 0 2", 0);
        dents("0 0 2 2 4 4 0 4", 0);
        dents("0 4 4 4 2 2 0 0", 0);
        // A little to the inside, and a little to the outside.
        dents("0 0 15 1 30 0 0 30", 1);
        dents("0 1 15 0 30 1 0 30", 0);
        dents("0 30 30 0 15 1 0 0", 1);
        dents("0 30 30 1 15 0 0 1", 0);
        // As little as there can be: by a triangle of twice the area 1.
        dents("5 0 6 1 8 2 8 9 0 9", 1);
        dents("0 9 8 9 8 2 6 1 5 0", 1);
        dents("5 0 7 1 8 2 8 9 0 9", 0);
        dents("0 9 8 9 8 2 7 1 5 0", 0);
    }

    private static void dentsInAllPlaces() {
        Due.sentence(14, DENT);
        dents("2 1 4 0 2 4 0 0", 1);
        dents("4 0 2 4 0 0 2 1", 1);
        dents("2 4 0 0 2 1 4 0", 1);
        dents("0 0 2 1 4 0 2 4", 1);
        dents("2 4 4 0 2 1 0 0", 1);
        dents("0 0 2 4 4 0 2 1", 1);
        // As many as there can be: all but three of 12 corners.
        dents("0 0 8 3 15 4 22 3 30 0 23 8 19 15 17 22 15 30 13 22 11 15 7 8", 9);
        dents("7 8 11 15 13 22 15 30 17 22 19 15 23 8 30 0 22 3 15 4 8 3 0 0", 9);
    }

    private static void parent(String setup, int... parents) {
        CornerClaims claims = Texts.loaded(setup);
        for (int k = 0; k < parents.length; k++) {
            Due.answer("parent(" + k + ") of " + setup, claims.parent(k), parents[k]);
        }
    }

    private static void containing() {
        Due.sentence(15, CONTAINS);
        parent("field 12 12;polygon 0 1 1 5 1 5 5 1 5;polygon 0 2 2 4 2 4 4 2 4;", -1, 0);
        parent("field 12 12;polygon 0 2 2 4 2 4 4 2 4;polygon 0 1 1 5 1 5 5 1 5;", 1, -1);
        // In a band aslant: no point that mixes x and y of the corners is in it.
        parent("field 12 12;polygon 0 0 12 0 10 10 0 12 0 12 2 2 12;polygon 0 2 9 9 3 9 4;", -1, 0);
        parent("field 12 12;polygon 0 12 0 10 0 0 10 0 12 2 12 12 2;polygon 0 9 4 9 3 2 9;", -1, 0);
        // Beside one another, in a dent, and in a bay with the other one around it on three sides.
        parent("field 12 12;polygon 0 1 1 3 1 3 3 1 3;polygon 0 4 1 12 1 12 12 4 12;", -1, -1);
        parent("field 12 12;polygon 0 0 0 12 0 12 12 6 2 0 12;polygon 0 5 9 7 9 6 5;", -1, -1);
        parent("field 12 12;polygon 0 0 0 12 0 12 12 0 12 0 8 9 8 9 4 0 4;polygon 0 2 5 8 5 5 7;", -1, -1);
        parent("field 12 12;polygon 0 0 0 12 0 12 12 0 12 0 8 9 8 9 4 0 4;polygon 0 2 1 8 1 5 3;", -1, 0);
        CornerClaims claims = Texts.loaded("field 12 12;polygon 0 5 5 7 5 7 7 5 7;");
        Draw.open(claims, 0, 1, 1, 11, 1, 11, 11, 1, 11);
        Due.answer("parent(0) in an open one", claims.parent(0), -1);
        Due.thrown("parent(1) of an open one", IllegalStateException.class, () -> claims.parent(1));
        claims.close(1);
        Due.answer("parent(0) in the closed one", claims.parent(0), 1);
        Due.answer("parent(1) is not itself", claims.parent(1), -1);
    }

    private static void noParent() {
        Due.sentence(15, "Returns its parent; -1 if there is none.");
        parent("field 12 12;polygon 0 1 1 5 1 5 5 1 5;", -1);
        CornerClaims claims = Texts.loaded(SIX);
        claims.remove(1);
        Due.answer("parent(2) without the outermost", claims.parent(2), -1);
        claims.undo();
        Due.answer("parent(3) with it again", claims.parent(3), 1);
    }

    private static void parents() {
        Due.sentence(15, PARENT);
        parent(SIX, 2, -1, 4, 1, 5, 3);
        // A small one beside it, and one that has a smaller area but is not around it.
        parent("field 12 12;polygon 0 6 6 7 6 6 7;polygon 0 1 1 2 1 1 2;polygon 0 0 0 12 0 12 12 0 12;",
                2, 2, -1);
        parent("field 12 12;polygon 0 0 0 12 0 12 12 0 12;polygon 0 1 1 11 1 11 2 2 2 2 11 1 11;"
                + "polygon 0 5 5 7 5 7 7 5 7;", -1, 0, 0);
        // Areas that differ by 1.
        parent("field 12 12;polygon 0 5 5 6 5 6 6 5 6;polygon 0 2 2 9 2 9 9 2 9;"
                + "polygon 0 1 1 10 1 10 10 1 10;", 1, 2, -1);
        parent("field 12 12;polygon 0 5 5 6 5 6 6 5 6;polygon 0 1 1 10 1 10 10 1 10;"
                + "polygon 0 2 2 9 2 9 9 2 9;", 2, -1, 1);
    }

    private static void claims() {
        Due.sentence(6, CLAIM);
        String stones = "stone 6 6 9;stone 4 6 8;stone 1 2 7;stone 6 12 6;";
        CornerClaims claims = Texts.loaded(SIX.replace("field 12 12;", "field 12 13;stone 6 6 1;"
                + "stone 6 13 1;"));
        Due.answer("stone(0, 3) in six", claims.stone(0, 3), 0);
        Due.answer("stone(1, 3) in none", claims.stone(1, 3), -1);
        int[] next = {1, 2, 2, 1, 0, -1};
        for (int k = 0; k < next.length; k++) {
            claims.remove(claims.stone(0, 3));
            Due.answer("stone(0, 3) without the smallest, " + k, claims.stone(0, 3), next[k]);
        }
        // Outside by one step, in a dent, and at the height of a corner.
        claims = Texts.loaded("field 12 12;" + stones + "polygon 0 2 2 10 2 10 10 6 5 2 10;");
        int[] due = {-1, 0, -1, -1};
        for (int stone = 0; stone < 4; stone++) {
            Due.answer("stone(" + stone + ", 3)", claims.stone(stone, 3), due[stone]);
        }
        Due.sentence(5, CLAIM);
        Due.answer("count(5)", claims.count(5), 1);
        Due.answer("count(5) of an open one", openAround().count(5), 0);
    }

    private static void dueClaims(CornerClaims claims, int promise, int first, int second) {
        Due.sentence(promise, CLAIM);
        Due.answer("stone(0, 3)", claims.stone(0, 3), first);
        Due.answer("stone(1, 3)", claims.stone(1, 3), second);
        Due.answer("count(5)", claims.count(5), (first < 0 ? 0 : 1) + (second < 0 ? 0 : 1));
    }

    /** Each change brings the outline over a stone, and undo brings it back. */
    private static void claimsAfterChanges() {
        CornerClaims claims = Texts.loaded(
                "field 12 12;stone 6 3 9;stone 6 1 8;polygon 0 2 2 10 2 10 10 2 10;");
        dueClaims(claims, 3, 0, -1);
        claims.bend(0, 0, 6, 4);
        dueClaims(claims, 22, -1, -1);
        claims.undo();
        dueClaims(claims, 25, 0, -1);
        claims.bend(0, 0, 6, 0);
        dueClaims(claims, 22, 0, 0);
        claims.undo();
        dueClaims(claims, 25, 0, -1);
        claims.takeOut(0, 0);
        dueClaims(claims, 23, -1, -1);
        claims.undo();
        dueClaims(claims, 25, 0, -1);
        claims.remove(0);
        dueClaims(claims, 24, -1, -1);
        claims.undo();
        dueClaims(claims, 25, 0, -1);
        Draw.open(claims, 1, 0, 0, 12, 0, 12, 12, 0, 12);
        dueClaims(claims, 20, 0, -1);
        claims.close(1);
        dueClaims(claims, 21, 0, 1);
        claims.undo();
        dueClaims(claims, 25, 0, -1);
        Texts.load(claims, "field 12 12;stone 1 1 1;stone 6 6 1;polygon 0 0 0 3 0 0 3;");
        dueClaims(claims, 3, 0, -1);
        Texts.load(claims, "field 12 12;stone 9 9 1;stone 1 1 1;polygon 0 0 0 3 0 0 3;");
        dueClaims(claims, 3, -1, 0);
        claims.undo();
        dueClaims(claims, 25, 0, -1);
    }

    private static CornerClaims openAround() {
        CornerClaims claims = Texts.loaded("field 12 12;stone 6 6 9;");
        Draw.open(claims, 0, 1, 1, 11, 1, 11, 11, 1, 11);
        return claims;
    }
}

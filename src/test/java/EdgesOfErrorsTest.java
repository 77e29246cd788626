/** The sentences about the errors of the setup text, their order and their offsets. */
final class EdgesOfErrorsTest {
    private static final int SYNTAX = CornerClaims.SYNTAX_ERROR;
    private static final int RANGE = CornerClaims.OUT_OF_RANGE;
    private static final int REFUSED = CornerClaims.REFUSED;
    private static final int MANY = CornerClaims.TOO_MANY;
    private static final int DEEP = CornerClaims.TOO_DEEP;
    /** 11 corners; with 10 9 they are 12. */
    private static final String ELEVEN = "polygon 0 0 0 2 1 4 0 6 1 8 0 10 1 12 0 14 1 16 0 18 1 20 0";

    public static void main(String[] args) {
        smallestOffset();
        sameOffset();
        syntax();
        range();
        refusedStones();
        refusedCorners();
        refusedPolygons();
        tooMany();
        tooDeep();
        Due.end();
    }

    private static String twentyStones() {
        StringBuilder text = new StringBuilder("field 30 9;");
        for (int k = 0; k < 20; k++) {
            text.append("stone ").append(k).append(" 9 1;");
        }
        return text.toString();
    }

    private static String sixPolygons() {
        StringBuilder text = new StringBuilder("field 30 9;");
        for (int k = 0; k < 6; k++) {
            text.append("polygon 0 ").append(2 * k).append(" 0 ").append(2 * k + 1).append(" 0 ")
                    .append(2 * k).append(" 1;");
        }
        return text.toString();
    }

    private static void smallestOffset() {
        Due.sentence(3, "The first error in the text is the one with the smallest offset.");
        // With 20 stones before them, each of these has an error of another kind, at the sign @.
        String[] errors = {"score 1+@;", "polygon @4 0 0;", "polygon 0 0 @9;", "@stone 25 9 1;",
            "score ((((@(1)))));"};
        int[] codes = {SYNTAX, RANGE, REFUSED, MANY, DEEP};
        for (int first = 0; first < errors.length; first++) {
            for (int second = 0; second < errors.length; second++) {
                Texts.dueErrorAt(codes[first],
                        twentyStones() + errors[first] + errors[second].replace("@", ""));
            }
        }
        // Of one statement: each of its tokens has an error.
        Texts.dueErrorAt(RANGE, "field @1 31#");
        Texts.dueErrorAt(RANGE, "field 2 @31#");
        Texts.dueErrorAt(SYNTAX, "field 2 30@#");
        Texts.dueErrorAt(RANGE, "field 9 9;stone @10 10 0#");
        Texts.dueErrorAt(RANGE, "field 9 9;stone 9 @10 0#");
        Texts.dueErrorAt(RANGE, "field 9 9;stone 9 9 @0#");
        Texts.dueErrorAt(REFUSED, "field 9 9;stone 9 9 1;stone 9 @9 0#");
        Texts.dueErrorAt(RANGE, "field 9 9;polygon @4 10 10 10 10#");
        Texts.dueErrorAt(RANGE, "field 9 9;polygon 3 @10 10 10 10#");
        Texts.dueErrorAt(RANGE, "field 9 9;polygon 3 9 @10 10 10#");
        Texts.dueErrorAt(REFUSED, "field 9 9;polygon 3 9 9 9 @9 10#");
        Texts.dueErrorAt(REFUSED, "field 9 9;polygon 3 9 9 8 9@;#");
    }

    private static void sameOffset() {
        Due.sentence(3, "If several kinds of error have the same offset, the first one in this list counts:");
        // SYNTAX_ERROR before OUT_OF_RANGE, REFUSED, TOO_MANY and TOO_DEEP.
        Texts.dueErrorAt(SYNTAX, "field 9 9 @99;");
        Texts.dueErrorAt(SYNTAX, "field 9 9;stone 1 1 1 @999;");
        Texts.dueErrorAt(SYNTAX, "field 9 9;score 1 @99999;");
        Texts.dueErrorAt(SYNTAX, "field 9 9;polygon 0 0 0 1@;");
        Texts.dueErrorAt(SYNTAX, twentyStones().replaceAll(";$", "@") + "stone 25 9 1;");
        Texts.dueErrorAt(SYNTAX, sixPolygons().replaceAll(";$", "@") + "polygon 0 25 9 26 9 25 8;");
        Texts.dueErrorAt(SYNTAX, "field 9 9;score ((((1@(1)))));");
        Texts.dueErrorAt(SYNTAX, "field 9 9;score ((((1)@(1))));");
        // OUT_OF_RANGE before REFUSED: a 13th corner.
        Texts.dueErrorAt(RANGE, "field 30 9;" + ELEVEN + " 10 9 5 @10;");
        Texts.dueErrorAt(REFUSED, "field 30 9;" + ELEVEN + " 10 9 5 @9;");
    }

    private static void syntax() {
        Due.sentence(3, "a token or byte that the grammar does not allow here, at its first byte;");
        Texts.dueErrorAt(SYNTAX, "field 9 9;@corners 1;");
        Texts.dueErrorAt(SYNTAX, "field 9 9; @unknown");
        Texts.dueErrorAt(SYNTAX, "field 9 9;stone @polygon");
        Texts.dueErrorAt(SYNTAX, "field 9 9;stone 1 1 1 @12345678901234567890");
        Texts.dueErrorAt(SYNTAX, "field 9 9@\u00ff");
        Texts.dueErrorAt(SYNTAX, "@123456");
        Due.sentence(3, "the end of the text, at its length, if the text ends too early;");
        Texts.dueErrorAt(SYNTAX, "@");
        Texts.dueErrorAt(SYNTAX, " @");
        Texts.dueErrorAt(SYNTAX, "field@");
        Texts.dueErrorAt(SYNTAX, "field 9 9@");
        Texts.dueErrorAt(SYNTAX, "field 9 9     @");
        Texts.dueErrorAt(SYNTAX, "field 9 9;stone 1 1 @");
        Texts.dueErrorAt(SYNTAX, "field 9 9;polygon 0 0 0@");
        Texts.dueErrorAt(SYNTAX, "field 9 9;polygon 0 0 0 @");
        Texts.dueErrorAt(SYNTAX, "field 9 9;score (1)@");
        Due.sentence(3, "a second score, at its first letter.");
        Texts.dueErrorAt(SYNTAX, "field 9 9;score 1;@score 1;");
        Texts.dueErrorAt(SYNTAX, "field 9 9;score 1;   @score ((((((1;");
        Texts.dueErrorAt(SYNTAX, "field 9 9;score 1;stone 9 9 9;@score");
    }

    private static void range() {
        Due.sentence(3, "OUT_OF_RANGE: a number outside its range, at its first digit.");
        Texts.dueErrorAt(RANGE, "field @00031 9;");
        Texts.dueErrorAt(RANGE, "field 9  @000001;");
        Texts.dueErrorAt(RANGE, "field 9 9;stone @010 9 9;");
        Texts.dueErrorAt(RANGE, "field 9 9;stone 9 @010 9;");
        Texts.dueErrorAt(RANGE, "field 9 9;stone 9 9 @0000;");
        Texts.dueErrorAt(RANGE, "field 9 9;stone 9 9 @0100;");
        Texts.dueErrorAt(RANGE, "field 9 9;polygon@04 9 9;");
        Texts.dueErrorAt(RANGE, "field 9 9;polygon 3 @010 9;");
        Texts.dueErrorAt(RANGE, "field 9 9;polygon 3 9 9 9 @010;");
        Texts.dueErrorAt(RANGE, "field 9 9;score @010000;");
        // The width is not the bound of y, nor the height that of x, and the last field's is neither.
        Texts.dueErrorAt(RANGE, "field 5 9;stone @6 5 1;");
        Texts.dueErrorAt(RANGE, "field 9 5;stone 5 @6 1;");
        CornerClaims claims = Texts.loaded("field 30 30;");
        Due.answer("load", Texts.load(claims, "field 5 9;stone 6 9 1;"), RANGE);
        claims = Texts.loaded("field 2 2;");
        Due.answer("load", Texts.load(claims, "field 5 9;stone 5 9 1;"), 0);
    }

    private static void refusedStones() {
        Due.sentence(3, "REFUSED: y of a stone that is a stone or a corner already, or that is on a side;");
        Texts.dueErrorAt(REFUSED, "field 9 9;stone 4 5 1;stone 4 @5 1;");
        Texts.dueGood("field 9 9;stone 4 5 1;stone 5 4 1;stone 4 4 1;stone 4 6 1;", 0);
        String start = "field 9 9;polygon 0 1 1 7 1 7 7 1 7;";
        for (String taken : new String[] {"1 @1", "7 @1", "7 @7", "1 @7", "2 @1", "4 @1", "7 @6", "4 @7",
            "1 @2", "1 @4"}) {
            Texts.dueErrorAt(REFUSED, start + "stone " + taken + " 1;");
        }
        Texts.dueGood(start + "stone 0 1 1;stone 8 1 1;stone 1 8 1;stone 1 0 1;stone 2 2 1;stone 6 6 1;", 1);
        Texts.dueErrorAt(REFUSED, "field 9 9;polygon 0 0 0 6 4 0 8;stone 3 @2 1;");
        Texts.dueGood("field 9 9;polygon 0 0 0 6 4 0 8;stone 3 1 1;stone 3 3 1;stone 9 6 1;", 1);
    }

    private static void refusedCorners() {
        Due.sentence(3, "y of a corner that is refused"
                + " (of a first corner: for the reason 3, or if it is on a side);");
        String start = "field 12 12;stone 10 10 1;polygon 0 4 4 8 4 8 8 4 8;polygon 0 ";
        Texts.dueErrorAt(REFUSED, start + "10 @10 11 10 10 11;");
        Texts.dueErrorAt(REFUSED, start + "4 @4 1 1 1 2;");
        Texts.dueErrorAt(REFUSED, start + "6 @4 1 1 1 2;");
        Texts.dueErrorAt(REFUSED, start + "4 @6 1 1 1 2;");
        Texts.dueGood(start + "5 5 6 5 5 6;", 2);
        // The reasons 2, 3, 4 and 5 of a later corner, each at y of this corner.
        Texts.dueErrorAt(REFUSED, "field 30 9;" + ELEVEN + " 10 9 5 @9;");
        Texts.dueGood("field 30 9;" + ELEVEN + " 10 9;", 1);
        Texts.dueErrorAt(REFUSED, start + "1 1 10 @10 1 2;");
        Texts.dueErrorAt(REFUSED, start + "1 1 4 @4 1 2;");
        Texts.dueErrorAt(REFUSED, start + "1 1 1 @1 1 2;");
        Texts.dueErrorAt(REFUSED, start + "9 9 11 @11 1 2;");
        Texts.dueErrorAt(REFUSED, start + "3 4 9 @4 1 2;");
        Texts.dueErrorAt(REFUSED, start + "3 3 4 3 2 @3;");
        Texts.dueErrorAt(REFUSED, start + "3 6 9 @6 1 2;");
        Texts.dueErrorAt(REFUSED, start + "3 6 4 @6 1 2;");
        Texts.dueErrorAt(REFUSED, start + "1 1 3 1 2 @1;");
        Texts.dueGood(start + "1 1 3 1 1 2;", 2);
    }

    private static void refusedPolygons() {
        Due.sentence(3, "the semicolon of a polygon that cannot be closed.");
        Texts.dueErrorAt(REFUSED, "field 9 9;polygon 0 0 0@;");
        Texts.dueErrorAt(REFUSED, "field 9 9;polygon 0 0 0 1 0   @;");
        Texts.dueGood("field 9 9;polygon 0 0 0 1 0 1 1   ;", 1);
        Texts.dueErrorAt(REFUSED, "field 9 9;stone 0 2 1;polygon 0 0 0 4 0 0 4@;");
        Texts.dueErrorAt(REFUSED, "field 9 9;polygon 0 0 0 2 0 4 0@;");
        Texts.dueErrorAt(REFUSED, "field 9 9;polygon 0 2 3 4 3 4 5;polygon 0 3 0 8 0 3 8@;");
        Texts.dueErrorAt(REFUSED, "field 9 9;polygon 0 0 2 3 2 3 4;polygon 0 2 0 8 0 2 8@;");
    }

    private static void tooMany() {
        Due.sentence(3,
                "TOO_MANY: a 21st stone or a 7th polygon, at the first letter of its statement.");
        Texts.dueGood(twentyStones(), 0);
        Texts.dueErrorAt(MANY, twentyStones() + "@stone 25 9 1;");
        Texts.dueErrorAt(MANY, twentyStones() + "   @stone 0 9 100");
        Texts.dueErrorAt(MANY, twentyStones() + "@stone");
        Texts.dueErrorAt(MANY, twentyStones() + "polygon 0 0 0 1 0 0 1;@stone 25 9 1;");
        Texts.dueErrorAt(SYNTAX, twentyStones() + "@ston 25 9 1;");
        Texts.dueGood(twentyStones() + "polygon 0 0 0 1 0 0 1;score 1;", 1);
        Texts.dueGood(sixPolygons(), 6);
        Texts.dueErrorAt(MANY, sixPolygons() + "@polygon 0 25 0 26 0 25 1;");
        Texts.dueErrorAt(MANY, sixPolygons() + "   @polygon 4 0 0;");
        Texts.dueErrorAt(MANY, sixPolygons() + "@polygon");
        Texts.dueErrorAt(MANY, sixPolygons() + "stone 25 9 1;@polygon 0 25 0 26 0 25 1;");
        Texts.dueGood(sixPolygons() + "stone 25 9 1;score 1;", 6);
        // They are counted anew in each text.
        CornerClaims claims = Texts.loaded(twentyStones());
        Due.answer("load of 20 stones again", Texts.load(claims, twentyStones()), 0);
        Due.answer("load of 6 polygons", Texts.load(claims, sixPolygons()), 6);
        Due.answer("load of 6 polygons again", Texts.load(claims, sixPolygons()), 6);
    }

    private static void tooDeep() {
        Due.sentence(3, "TOO_DEEP: an opening parenthesis inside 4 others, at that parenthesis.");
        Texts.dueGood("field 9 9;score ((((1))));", 0);
        Texts.dueErrorAt(DEEP, "field 9 9;score ((((@(1)))));");
        Texts.dueErrorAt(DEEP, "field 9 9;score ((((@(");
        Texts.dueErrorAt(DEEP, "field 9 9;score ((((  @((((");
        Texts.dueErrorAt(DEEP, "field 9 9;score ((((1)*2)*3)*(4*(5*(6*@(7))));");
        Texts.dueErrorAt(DEEP, "field 9 9;score 1+((((1)+(1)+(@(1)+(1)))));");
        Texts.dueGood("field 9 9;score (((1)))+((((1))))+(1)*((1)+((1)+((1))));", 0);
        Texts.dueErrorAt(SYNTAX, "field 9 9;score ((((@)))));");
    }
}

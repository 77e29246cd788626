/** Promise 3: load, and the setup text. */
final class Promise03Test {
    private static final int SYNTAX = CornerClaims.SYNTAX_ERROR;
    private static final int RANGE = CornerClaims.OUT_OF_RANGE;
    private static final int REFUSED = CornerClaims.REFUSED;
    private static final int MANY = CornerClaims.TOO_MANY;
    private static final int DEEP = CornerClaims.TOO_DEEP;

    public static void main(String[] args) {
        Due.answer("SYNTAX_ERROR", SYNTAX, -2);
        Due.answer("OUT_OF_RANGE", RANGE, -3);
        Due.answer("REFUSED", REFUSED, -4);
        Due.answer("TOO_MANY", MANY, -5);
        Due.answer("TOO_DEEP", DEEP, -6);
        wrongLengths();
        tokens();
        syntaxErrors();
        ranges();
        refusedStones();
        refusedCorners();
        refusedClosings();
        tooMany();
        scores();
        firstErrors();
        replacesAll();
        leavesAllOnError();
        Due.end();
    }

    private static void error(int code, String marked) {
        Texts.dueErrorAt(code, marked);
    }

    private static void wrongLengths() {
        CornerClaims claims = new CornerClaims();
        Texts.append(claims, "field 5 6;          ");
        for (int length : new int[] {-1, 21, 800, Integer.MIN_VALUE, Integer.MAX_VALUE}) {
            Due.thrown("load(" + length + ")", IllegalArgumentException.class,
                    () -> claims.load(length));
        }
        Due.answer("load(20)", claims.load(20), 0);
        Due.answer("the width", claims.count(0), 5);
        Due.thrown("load(1) after it", IllegalArgumentException.class, () -> claims.load(1));
        Due.answer("load(0) of an empty text", claims.load(0), SYNTAX);
        Due.answer("errorOffset()", claims.errorOffset(), 0);
    }

    private static void tokens() {
        Texts.dueGood("field 2 2;", 0);
        Texts.dueGood("  field  30 0030 ;  ", 0);
        Texts.dueGood("field2 2;stone2 2 1;polygon0 0 0 2 0 0 2;score1;", 1);
        Texts.dueGood("field 00000000000000000000000000000000000000000000002 2;", 0);
        Texts.dueGood("field 9 9 ; stone 0 0 1 ; polygon 3 5 5 6 5 5 6 ; score ( area ) / 2 ; ", 1);
        error(SYNTAX, "@fie ld 2 2;");
        error(SYNTAX, "@fields 2 2;");
        error(SYNTAX, "@fieldz 2 2;");
        error(SYNTAX, "@afield 2 2;");
        error(SYNTAX, "field 2 2;@zstone 1 1 1;");
        error(SYNTAX, "field 2 2;score @innerz;");
        error(SYNTAX, "field 2 2;score area@`;");
        error(SYNTAX, "field 2 2;score area@{;");
        error(SYNTAX, "field 2 2;score 1@:;");
        error(SYNTAX, "field 2 2;score 1@,2;");
        error(SYNTAX, "field@Field 2 2;");
        error(SYNTAX, "@Field 2 2;");
        error(SYNTAX, "field 2@\t2;");
        error(SYNTAX, "field 2 2;@\n");
        error(SYNTAX, "field@\u00a02 2;");
        error(SYNTAX, "field 2 2;@\u0000");
        error(SYNTAX, "field 2@,2;");
        error(SYNTAX, "field @-2 2;");
        error(SYNTAX, "field 22@;");
        error(RANGE, "field @222 2;");
        error(SYNTAX, "field 2 2;score 3@area;");
        error(SYNTAX, "field 2 2;score @areaarea;");
        error(SYNTAX, "field 2 2;score area@3;");
        error(SYNTAX, "field 2 2;score 3 @3;");
    }

    private static void syntaxErrors() {
        error(SYNTAX, "@");
        error(SYNTAX, "   @");
        error(SYNTAX, "@stone 1 1 1;");
        error(SYNTAX, "@;");
        error(SYNTAX, "field@");
        error(SYNTAX, "field 2@");
        error(SYNTAX, "field 2 2@");
        error(SYNTAX, "field 2 2  @");
        error(SYNTAX, "field @;");
        error(SYNTAX, "field 2 @;");
        error(SYNTAX, "field 2 2 @2;");
        error(SYNTAX, "field 2 2;@;");
        error(SYNTAX, "field 2 2;@field 2 2;");
        error(SYNTAX, "field 2 2;@5");
        error(SYNTAX, "field 2 2;@area;");
        error(SYNTAX, "field 2 2;@stones 1 1 1;");
        error(SYNTAX, "field 2 2;stone @;");
        error(SYNTAX, "field 2 2;stone 1 @;");
        error(SYNTAX, "field 2 2;stone 1 1@;");
        error(SYNTAX, "field 2 2;stone 1 1 1 @1;");
        error(SYNTAX, "field 2 2;stone 1 1 1@");
        error(SYNTAX, "field 2 2;stone 1 1 @stone;");
        error(SYNTAX, "field 2 2;polygon@;");
        error(SYNTAX, "field 2 2;polygon 0@;");
        error(SYNTAX, "field 2 2;polygon 0 0@;");
        error(SYNTAX, "field 2 2;polygon 0 0 0 2@;");
        error(SYNTAX, "field 2 2;polygon 0 0 0 2 0 0 2@");
        error(SYNTAX, "field 2 2;polygon 0 0 0 2 0 0 2 @stone 1 1 1;");
        error(SYNTAX, "field 2 2;polygon 0 0 0 2 0 @+;");
        error(SYNTAX, "field 2 2;polygon 0 0 0@)");
        error(SYNTAX, "field 2 2;polygon @area 0 0;");
        error(SYNTAX, "field 2 2;score@;");
        error(SYNTAX, "field 2 2;score 1@");
        error(SYNTAX, "field 2 2;score@");
        error(SYNTAX, "field 2 2;score 1+@");
        error(SYNTAX, "field 2 2;score 1* @");
        error(SYNTAX, "field 2 2;score (@");
        error(SYNTAX, "field 2 2;score (area@");
        error(SYNTAX, "field 2 2;score (area)@");
        error(SYNTAX, "field 2 2;stone@");
        error(SYNTAX, "field 2 2;stone 1@");
        error(SYNTAX, "field 2 2;stone 1 1@");
        error(SYNTAX, "field 2 2;polygon@");
        error(SYNTAX, "field 2 2;polygon 0@");
        error(SYNTAX, "field 2 2;polygon 0 1@");
        error(SYNTAX, "field 2 2;polygon 0 1 1@");
        error(SYNTAX, "field 2 2;polygon 0 1 1 2@");
        error(SYNTAX, "field 2 2;score 1+@;");
        error(SYNTAX, "field 2 2;score @-1;");
        error(SYNTAX, "field 2 2;score 1-@-1;");
        error(SYNTAX, "field 2 2;score 1*@/1;");
        error(SYNTAX, "field 2 2;score (1@;");
        error(SYNTAX, "field 2 2;score (@);");
        error(SYNTAX, "field 2 2;score 1@);");
        error(SYNTAX, "field 2 2;score (1)@(1);");
        error(SYNTAX, "field 2 2;score @stone;");
        error(SYNTAX, "field 2 2;score @field;");
        error(SYNTAX, "field 2 2;score 1;@score 1;");
        error(SYNTAX, "field 2 2;score 1;stone 1 1 1;@score");
        error(SYNTAX, "field 2 2;score ((((1@(");
    }

    private static void ranges() {
        error(RANGE, "field @1 2;");
        error(RANGE, "field @31 2;");
        error(RANGE, "field 2 @1;");
        error(RANGE, "field 2 @31;");
        error(RANGE, "field @0 2");
        error(RANGE, "field @4294967298 2;");
        error(RANGE, "field @18446744073709551618 2;");
        error(RANGE, "field 2  @00031;");
        error(RANGE, "field 5 9;stone @6 0 1;");
        error(RANGE, "field 5 9;stone 5 @10 1;");
        error(RANGE, "field 5 9;stone 5 9 @0;");
        error(RANGE, "field 5 9;stone 5 9 @100;");
        Texts.dueGood("field 5 9;stone 5 9 99;stone 0 0 1;", 0);
        error(RANGE, "field 5 9;polygon @4 0 0;");
        error(RANGE, "field 5 9;polygon 3 @6 0;");
        error(RANGE, "field 5 9;polygon 3 5 @10;");
        error(RANGE, "field 5 9;polygon 3 5 9 @6 0;");
        error(RANGE, "field 5 9;polygon 3 5 9 0 @10;");
        Texts.dueGood("field 5 9;polygon 3 5 9 0 9 5 0;", 1);
        error(RANGE, "field 5 9;score @10000;");
        error(RANGE, "field 5 9;score 1+(2*@99999);");
        Texts.dueGood("field 5 9;score 9999+0;", 0);
        Texts.dueGood("field 5 9;score 000009999;", 0);
    }

    private static void refusedStones() {
        String start = "field 9 9;polygon 0 0 0 4 0 0 4;";
        error(REFUSED, "field 9 9;stone 3 4 1;stone 3 @4 1;");
        error(REFUSED, start + "stone 4 @0 1;");
        error(REFUSED, start + "stone 2 @2 1;");
        error(REFUSED, start + "stone 2 @0 1;");
        error(REFUSED, start + "stone 0 @3 1;");
        Texts.dueGood(start + "stone 1 1 1;stone 3 3 1;stone 5 0 1;", 1);
        error(REFUSED, "field 9 9;stone 3 4 1;stone 3 @4 100;");
        error(SYNTAX, "field 9 9;stone 3 4 1;stone 3@;");
    }

    private static void refusedCorners() {
        String start = "field 9 9;stone 9 9 1;polygon 0 0 0 4 0 0 4;polygon 1 ";
        error(REFUSED, start + "4 @0 1 1;");
        error(REFUSED, start + "9 @9 1 1;");
        error(REFUSED, start + "2 @2 1 1;");
        error(REFUSED, start + "6 6 9 @9;");
        error(REFUSED, start + "6 6 6 @6;");
        error(REFUSED, start + "6 6 4 @0;");
        error(REFUSED, start + "6 6 1 @1;");
        error(REFUSED, start + "9 8 8 9 9 @8;");
        error(REFUSED, start + "8 8 8 7 8 @9;");
        error(REFUSED, start + "5 5 2 @2;");
        error(REFUSED, start + "6 0 2 @0;");
        error(REFUSED, start + "8 1 6 1 8 3 6 3 7 @1;");
        // The line goes through a stone; 13 corners.
        error(REFUSED, "field 9 9;stone 5 5 1;polygon 1 4 4 6 @6;");
        String twelve = "field 30 9;polygon 0 0 0 2 1 4 0 6 1 8 0 10 1 12 0 14 1 16 0 18 1 20 0 10 9";
        Texts.dueGood(twelve + ";", 1);
        error(REFUSED, twelve + " 5 @9;");
        error(RANGE, twelve + " 5 @10;");
        error(RANGE, twelve + " @31 9;");
    }

    private static void refusedClosings() {
        error(REFUSED, "field 9 9;polygon 0 0 0@;");
        error(REFUSED, "field 9 9;polygon 0 0 0 1 0 @;");
        error(REFUSED, "field 9 9;polygon 0 0 0 2 0 4 0@;");
        error(REFUSED, "field 9 9;polygon 0 0 0 6 0 2 3 4 3@;");
        error(REFUSED, "field 9 9;stone 0 2 1;polygon 0 0 0 6 0 0 4@;");
        Texts.dueGood("field 9 9;polygon 0 0 0 6 0 4 3 2 3;", 1);
        Texts.dueGood("field 9 9;polygon 0 0 0 2 0 4 0 4 4;", 1);
    }

    private static void tooMany() {
        StringBuilder stones = new StringBuilder("field 30 2;");
        for (int k = 0; k < 20; k++) {
            stones.append("stone ").append(k).append(" 0 1;");
        }
        Texts.dueGood(stones.toString(), 0);
        error(MANY, stones + "@stone 20 0 1;");
        error(MANY, stones + " @stone");
        error(MANY, stones + "polygon 0 0 1 1 1 0 2; @stone 0 0 1;");
        error(SYNTAX, stones + "@stones");
        StringBuilder polygons = new StringBuilder("field 30 2;");
        for (int k = 0; k < 6; k++) {
            polygons.append("polygon 0 ").append(k).append(" 0 ").append(k).append(" 1 ").append(k + 1)
                    .append(" 2;");
        }
        Texts.dueGood(polygons.toString(), 6);
        error(MANY, polygons + "@polygon 0 10 0 11 0 10 1;");
        error(MANY, polygons + "stone 9 0 1;@polygon;");
        Texts.dueGood(polygons + "stone 9 0 1;score 1;", 6);
    }

    private static void scores() {
        error(DEEP, "field 2 2;score ((((@(1)))));");
        error(DEEP, "field 2 2;score 1+(2*(3-(4/(5+ @(");
        Texts.dueGood("field 2 2;score ((((1))))*((((area))))+(1);", 0);
        error(DEEP, "field 2 2;score (1)+(((1)))*(((( @(1)))));");
        Texts.dueGood("field 2 2;score area+stones-corners*dents/inner;", 0);
        Texts.dueGood("field 2 2;score 0;", 0);
        StringBuilder longest = new StringBuilder("field 2 2;score 1");
        while (longest.length() < 797) {
            longest.append("+1");
        }
        CornerClaims claims = Texts.loaded(longest + " ; ");
        claims.begin(0, 0, 0);
        claims.corner(0, 1, 0);
        claims.corner(0, 0, 1);
        claims.close(0);
        Due.answer("the score of many ones", claims.score(0), (longest.length() - 15) / 2);
    }

    private static void firstErrors() {
        // Of one offset the range comes before the refusal, and a smaller offset before all.
        error(RANGE, "field 5 5;stone 1 1 1;stone 1 @6 1;");
        error(RANGE, "field 5 5;stone @6 1 1;stone 1 1 1;score (((((");
        error(REFUSED, "field 5 5;stone 1 1 1;stone 1 @1 1;#");
        error(SYNTAX, "field 5 5;@#stone 1 1 1;stone 1 1 1;");
        error(REFUSED, "field 5 5;polygon 0 0 0 1 0@;polygon 9");
        error(SYNTAX, "field 5 5;polygon 0 0 0 1 0 @#");
    }

    private static void replacesAll() {
        CornerClaims claims = Texts.loaded(
                "field 9 8;stone 1 1 7;polygon 2 0 0 4 0 0 4;score 5*area;");
        Due.answer("score(0)", claims.score(0), 80);
        claims.begin(3, 9, 8);
        Due.answer("load", Texts.load(claims, "field 3 4;polygon 1 0 0 1 0 0 1;"), 1);
        int[] due = {3, 4, 0, 1, 1, 0};
        for (int what = 0; what < due.length; what++) {
            Due.answer("count(" + what + ")", claims.count(what), due[what]);
        }
        Due.answer("polygon(0, 0)", claims.polygon(0, 0), 1);
        Due.answer("score(0) without a score statement", claims.score(0), 1);
        for (int k = 1; k <= 30; k++) {
            Texts.load(claims, "field 3 4;polygon 1 0 0 1 0 0 1;score (" + k + "-area)*2-1;");
            Due.answer("score(0) by the latest score", claims.score(0), 2 * k - 3);
        }
        Texts.load(claims, "field 3 4;score 9;");
        Due.answer("count(3)", claims.count(3), 0);
    }

    private static void leavesAllOnError() {
        CornerClaims claims = Texts.loaded(
                "field 9 8;stone 1 1 7;polygon 2 0 0 4 0 0 4;score 5*area;");
        long sum = claims.checksum();
        String[] texts = {"field 3 3;stone 1 1 1;polygon 0 0 0 1 0 0 1;score 2;#", "field 3 3;score 4;stone",
            "field 9", "", "field 3 3;polygon 0 0 0 3 0 3 3 0 3;polygon 0 1 1 2 1"};
        for (String text : texts) {
            Due.answer("load of \"" + text + "\"", Texts.load(claims, text), SYNTAX);
            Due.answer("checksum() then", claims.checksum(), sum);
            Due.answer("the width then", claims.count(0), 9);
            Due.answer("the stone's value then", claims.stone(0, 2), 7);
            Due.answer("score(0) then", claims.score(0), 80);
        }
        Due.answer("undo() knows the first load only", claims.undo(), 0);
    }
}

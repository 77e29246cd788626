/** The sentences about scores, points and the leader that name a boundary. */
final class EdgesOfScoresTest {
    private static final String LIMITED =
            "The score of a closed polygon is the value of the score expression, limited to the range"
            + " -99999 to 99999.";
    private static final String NEARER = "A number that is limited to a range becomes the nearer bound if"
            + " it is outside of it.";
    private static final String FIGURES = "In the expression, area is its area (twice as great), stones the"
            + " sum of the values of the stones that it claims, corners the number of its corners, dents the"
            + " number of its dents, and inner the number of points of the field inside of it.";
    private static final String BY_ZERO = "Division by 0 gives 0.";
    private static final String TRUNCATES = "Division truncates toward zero.";
    private static final String LEFT_TO_RIGHT =
            "The operations of one sum or term are made from the left to the right;";
    private static final String EACH_LIMITED =
            "the result of each one is limited to the range -1000000 to 1000000.";
    private static final String NO_STATEMENT = "Without a score statement the value is area + stones.";
    private static final String POINTS =
            "Returns the sum of the scores of all closed polygons of which the player is the owner.";
    private static final String LEADER =
            "Returns the player with the greatest points, of several the smallest one.";

    public static void main(String[] args) {
        scoresLimits();
        figures();
        divisions();
        order();
        resultsLimits();
        noStatement();
        points();
        leader();
        Due.end();
    }

    private static void due(String sum, int due) {
        CornerClaims claims = Texts.loaded("field 9 9;polygon 2 0 0 2 0 0 1;score " + sum + ";");
        Due.answer("score(0) by " + sum, claims.score(0), due);
    }

    private static void scoresLimits() {
        Due.sentence(16, LIMITED);
        due("9999*10+8", 99998);
        due("9999*10+9", 99999);
        due("9999*10+10", 99999);
        due("9999*9999", 99999);
        due("0-9999*10-8", -99998);
        due("0-9999*10-9", -99999);
        due("0-9999*10-10", -99999);
        due("0-9999*9999", -99999);
        Due.sentence(16, NEARER);
        due("1000*1000", 99999);
        due("0-1000*1000", -99999);
    }

    private static void figures() {
        String polygon = "field 12 12;stone 6 6 99;stone 3 3 50;stone 4 8 30;stone 1 1 20;"
                + "polygon 0 2 2 10 2 10 10 6 8 2 10;polygon 1 5 5 7 5 7 7 5 7;score ";
        String[] names = {"area", "stones", "corners", "dents", "inner"};
        int[] outer = {112, 80, 5, 1, 43};
        int[] within = {8, 99, 4, 0, 1};
        Due.sentence(16, FIGURES);
        for (int k = 0; k < names.length; k++) {
            CornerClaims claims = Texts.loaded(polygon + names[k] + ";");
            Due.answer("score(0) by " + names[k], claims.score(0), outer[k]);
            Due.answer("score(1) by " + names[k], claims.score(1), within[k]);
        }
        // The least and the greatest figures.
        CornerClaims claims = Texts.loaded("field 30 30;polygon 0 0 0 1 0 0 1;"
                + "score area+10*stones+100*corners+1000*dents+9999*inner;");
        Due.answer("score(0) of the smallest", claims.score(0), 301);
        StringBuilder text = new StringBuilder("field 30 30;");
        for (int k = 1; k <= 20; k++) {
            text.append("stone ").append(k).append(" 1 99;");
        }
        text.append("polygon 0 0 0 30 0 30 30 0 30;score area+10*stones+inner;");
        Due.answer("score(0) of the greatest", Texts.loaded(text.toString()).score(0), 22441);
    }

    private static void divisions() {
        Due.sentence(16, BY_ZERO);
        due("1/0", 0);
        due("0/0", 0);
        due("(0-1)/0", 0);
        due("9999/(area-2)+7", 7);
        due("9999/stones", 0);
        due("9999/dents*5", 0);
        due("5/0/0", 0);
        due("5/(1/0)+1", 1);
        due("5/(1/2)+1", 1);
        Due.sentence(16, TRUNCATES);
        due("5/5", 1);
        due("4/5", 0);
        due("9/5", 1);
        due("10/5", 2);
        due("(0-4)/5", 0);
        due("(0-5)/5", -1);
        due("(0-9)/5", -1);
        due("(0-10)/5", -2);
        due("9/(0-5)", -1);
        due("(0-9)/(0-5)", 1);
        due("4/(0-5)+100", 100);
    }

    private static void order() {
        Due.sentence(16, LEFT_TO_RIGHT);
        due("5-3-1", 1);
        due("5-3+1", 3);
        due("5-(3+1)", 1);
        due("100/10/5", 2);
        due("100/10*5", 50);
        due("100*10/5", 200);
        due("7/2*2", 6);
        due("2*7/2", 7);
        due("7/(2*2)", 1);
        due("100/(10/5)", 50);
        due("1+2*3", 7);
        due("2*3+1", 7);
        due("10-6/2-1", 6);
    }

    private static void resultsLimits() {
        Due.sentence(16, EACH_LIMITED);
        // By a product: 999999, 1000000, 1000001; and then less 999900.
        due("1001*999-9999*100", 99);
        due("1000*1000-9999*100", 100);
        due("101*9901-9999*100", 100);
        due("(0-1001)*999+9999*100", -99);
        due("(0-1000)*1000+9999*100", -100);
        due("(0-101)*9901+9999*100", -100);
        due("101*(0-9901)+9999*100", -100);
        // By a sum and by a difference.
        due("1001*999+1-9999*100", 100);
        due("1000*1000+1-9999*100", 100);
        due("1000*1000-1-9999*100", 99);
        due("0-1001*999-1+9999*100", -100);
        due("0-1000*1000-1+9999*100", -100);
        due("0-1000*1000+1+9999*100", -99);
        // Each result, and not the last one only: far beyond an int, and within a term.
        due("9999*9999*9999/9999", 100);
        due("9999*9999*9999*9999*9999/1000", 1000);
        due("(0-9999)*9999*9999*9999*9999/1000", -1000);
        due("1000*1000+1000*1000-1000*1000+5", 5);
        due("1000*1000-(0-1000*1000)-9999*100", 100);
        due("(1000*1000)*(1000*1000)/1000", 1000);
        due("1000*1000/(0-1)+9999*100", -100);
    }

    private static void noStatement() {
        Due.sentence(16, NO_STATEMENT);
        String setup = "field 12 12;stone 6 6 99;stone 3 3 50;stone 1 1 20;"
                + "polygon 0 2 2 10 2 10 10 2 10;polygon 1 5 5 7 5 7 7 5 7;";
        CornerClaims claims = Texts.loaded(setup);
        Due.answer("score(0)", claims.score(0), 178);
        Due.answer("score(1)", claims.score(1), 107);
        Texts.load(claims, setup + "score 3;");
        Due.answer("score(0) by 3", claims.score(0), 3);
        Texts.load(claims, setup);
        Due.answer("score(0) without the statement again", claims.score(0), 178);
        claims.undo();
        Due.answer("score(0) by 3 again", claims.score(0), 3);
        CornerClaims plain = new CornerClaims();
        Draw.closed(plain, 0, 0, 0, 1, 0, 0, 1);
        Due.answer("score(0) without a load", plain.score(0), 1);
    }

    private static void points() {
        Due.sentence(17, POINTS);
        String six = "field 30 9;polygon 3 0 0 1 0 0 1;polygon 3 3 0 4 0 3 1;polygon 3 6 0 7 0 6 1;"
                + "polygon 3 9 0 10 0 9 1;polygon 3 12 0 13 0 12 1;polygon 3 15 0 16 0 15 1;";
        CornerClaims claims = Texts.loaded(six + "score 9999*9999;");
        Due.answer("points(3), beyond the limit of one", claims.points(3), 599994);
        Due.answer("points(0) of none", claims.points(0), 0);
        claims = Texts.loaded(six + "score 0-9999*9999;");
        Due.answer("points(3), below the limit of one", claims.points(3), -599994);
        claims = Texts.loaded("field 9 9;polygon 0 0 0 1 0 0 1;polygon 3 3 3 5 3 3 4;");
        Draw.open(claims, 3, 7, 7, 9, 7, 9, 9);
        Due.answer("points(0)", claims.points(0), 1);
        Due.answer("points(3)", claims.points(3), 2);
        claims.close(2);
        Due.answer("points(3) then", claims.points(3), 6);
        for (int player : new int[] {-1, 4, Integer.MIN_VALUE, Integer.MAX_VALUE}) {
            CornerClaims asked = claims;
            Due.thrown("points(" + player + ")", IllegalArgumentException.class,
                    () -> asked.points(player));
        }
    }

    private static void leader(String statements, int due) {
        Due.answer("leader() of " + statements, Texts.loaded("field 30 9;" + statements).leader(), due);
    }

    private static void leader() {
        Due.sentence(18, LEADER);
        Due.answer("leader() of a new object", new CornerClaims().leader(), 0);
        String[] same = {"polygon 0 0 0 1 0 0 1;", "polygon 1 3 0 4 0 3 1;", "polygon 2 6 0 7 0 6 1;",
            "polygon 3 9 0 10 0 9 1;"};
        for (int first = 0; first < 4; first++) {
            for (int second = 0; second < 4; second++) {
                if (first != second) {
                    leader(same[first] + same[second], Math.min(first, second));
                    leader(same[first] + same[second].replace(" 1;", " 2;"), second);
                }
            }
        }
        leader(same[3] + same[2] + same[1] + same[0], 0);
        // All but one below 0, all of them below 0, and one by 1 above the others.
        leader(same[0] + same[1] + same[2] + "score 0-area;", 3);
        leader(same[0] + same[1] + same[2] + same[3] + "score 0-area;", 0);
        leader(same[0].replace(" 1;", " 2;") + same[1] + same[2] + same[3] + "score 0-area;", 1);
        leader("polygon 3 0 0 1 0 0 1;" + "polygon 1 3 0 4 0 3 2;" + "polygon 3 6 0 7 0 6 2;", 3);
    }
}

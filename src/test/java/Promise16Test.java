/** Promise 16: score. */
final class Promise16Test {
    /** Area 60, stones 37, corners 5, dents 1, inner 17. */
    private static final String POLYGON = "field 10 10;stone 5 2 7;stone 7 6 30;stone 5 5 99;"
            + "polygon 0 2 1 8 1 8 9 5 3 2 9;";

    public static void main(String[] args) {
        Figures.exceptions("score", CornerClaims::score);
        Due.answer("score(0) without a score statement", Texts.loaded(POLYGON).score(0), 97);
        figures();
        order();
        divisions();
        limits();
        changes();
        Due.end();
    }

    private static void due(String sum, int due) {
        Due.answer("score(0) by " + sum, Texts.loaded(POLYGON + "score " + sum + ";").score(0), due);
        // The statement may also stand before the polygon.
        Due.answer("score(0) by " + sum + " before",
                Texts.loaded(POLYGON.replace("10;stone 5 2", "10;score " + sum + ";stone 5 2")).score(0),
                due);
    }

    private static void figures() {
        due("area", 60);
        due("stones", 37);
        due("corners", 5);
        due("dents", 1);
        due("inner", 17);
        due("0", 0);
        due("9999", 9999);
        due("000123", 123);
        due("((((inner))))", 17);
    }

    private static void order() {
        due("area+stones*corners-inner/dents", 228);
        due("area-stones-inner", 6);
        due("2*3+4*5", 26);
        due("2+3*4", 14);
        due("(2+3)*4", 20);
        due("2*(3+4)*5", 70);
        due("5-3+2", 4);
        due("5-(3+2)", 0);
        due("12/2*3", 18);
        due("12*2/3", 8);
        due("100/3*3", 99);
        due("100-((8-(3-(1-5)))*2-7)/3", 101);
        due("1-2-3-4-5", -13);
        due("1-(2-(3-(4-(5-6))))", -3);
        due("2*(1+2*(1+2*(1+2*(1+2*1))))", 62);
    }

    private static void divisions() {
        due("area/7/2", 4);
        due("area/(7/2)", 20);
        due("(7-area)/2", -26);
        due("(7-area)/10", -5);
        due("7/(0-2)", -3);
        due("(0-7)/(0-2)", 3);
        due("1/2", 0);
        due("area/0", 0);
        due("0/0", 0);
        due("area/(dents-1)", 0);
        due("1/0*5+3", 3);
        due("(0-area)/0+4", 4);
    }

    private static void limits() {
        due("9999*9999", 99999);
        due("9999*9999/100", 10000);
        due("(0-9999)*9999/100", -10000);
        due("9999*101/1000", 1000);
        due("9999*100/1000", 999);
        due("9999*9999*9999/200", 5000);
        due("9999*100+9999-9999*100", 100);
        due("0-9999*9999-9999*9999+9999*100", -100);
        due("9999*(9999*9999)/1000", 1000);
        due("(9999*9999)*(9999*9999)/1000", 1000);
        due("(0-9999*9999)*(9999*9999)/1000", -1000);
        due("1000*1000/100", 10000);
        due("1000*1000-9999*100", 100);
        due("1000*999+1000-1000*999", 1000);
        due("9999*10+8", 99998);
        due("9999*10+9", 99999);
        due("9999*10+10", 99999);
        due("0-9999*10-8", -99998);
        due("0-9999*10-9", -99999);
        due("0-9999*10-10", -99999);
    }

    private static void changes() {
        CornerClaims claims = Texts.loaded(POLYGON + "score area+1000*(stones+100*(dents+10*inner));");
        Due.answer("score(0) limited", claims.score(0), 99999);
        claims = Texts.loaded(POLYGON + "score stones*10+dents;");
        Due.answer("score(0)", claims.score(0), 371);
        claims.begin(0, 6, 2);
        Due.answer("corner", claims.corner(1, 4, 3), 2);
        Due.answer("corner", claims.corner(1, 4, 2), 3);
        Due.answer("score(0) with an open polygon", claims.score(0), 371);
        Due.answer("takeOut", claims.takeOut(0, 3), 96);
        Due.answer("score(0) without the dent", claims.score(0), 1360);
    }
}

import java.util.Arrays;
import java.util.List;

/** The sentences about the setup text, but for those about its errors. */
final class EdgesOfTextTest {
    private static final int SYNTAX = CornerClaims.SYNTAX_ERROR;
    private static final int RANGE = CornerClaims.OUT_OF_RANGE;
    private static final String FACTORS = "1 area stones corners dents inner (";
    private static final String STATEMENTS = "stone polygon score";
    private static final String[] ALL = {"field", "stone", "polygon", "score", "area", "stones", "corners",
        "dents", "inner", "size", "a", "1", ";", "+", "-", "*", "/", "(", ")", "#", "."};
    /** The tokens of a setup, each with those that the grammar allows at its place. */
    private static final String[][] TOKENS = {
        {"field", "field"}, {"9", "1"}, {"8", "1"}, {";", ";"},
        {"stone", STATEMENTS}, {"1", "1"}, {"1", "1"}, {"5", "1"}, {";", ";"},
        {"polygon", STATEMENTS}, {"2", "1"}, {"4", "1"}, {"4", "1"}, {"6", "1 ;"}, {"4", "1"},
        {"4", "1 ;"}, {"6", "1"}, {";", "1 ;"},
        {"score", STATEMENTS}, {"(", FACTORS}, {"area", FACTORS}, {"+", "+ - * / )"}, {"2", FACTORS},
        {")", "+ - * / )"}, {"*", "+ - * / ;"}, {"3", FACTORS}, {"-", "+ - * / ;"}, {"dents", FACTORS},
        {"/", "+ - * / ;"}, {"corners", FACTORS}, {"+", "+ - * / ;"}, {"stones", FACTORS},
        {"+", "+ - * / ;"}, {"inner", FACTORS}, {";", "+ - * / ;"},
        {"stone", STATEMENTS}, {"2", "1"}, {"2", "1"}, {"5", "1"}, {";", ";"},
    };

    public static void main(String[] args) {
        bufferOf800();
        numbers();
        words();
        longestRuns();
        spaces();
        noOtherByte();
        tokensOfGrammar();
        endsOfText();
        repetitions();
        closedAtSemicolon();
        factors();
        parentheses();
        scoreOnce();
        Due.end();
    }

    private static String repeated(String part, int times) {
        return part.repeat(times);
    }

    private static void bufferOf800() {
        Due.sentence(3, "The setup text is read from an input buffer of at most 800 bytes.");
        String text = "field 7 " + repeated("0", 790) + "9;";
        CornerClaims claims = new CornerClaims();
        Due.answer("load of 800 bytes", Texts.load(claims, text), 0);
        Due.answer("the height", claims.count(1), 9);
        String open = text.replace(';', '1');
        Texts.dueError(open, RANGE, 8);
        Texts.dueError(open.substring(0, 799) + " ", SYNTAX, 800);
        Texts.dueError(open.substring(0, 799) + "#", SYNTAX, 799);
    }

    private static void numbers() {
        Due.sentence(3, "A number is a run of decimal digits, of any length (leading zeros do not matter);");
        Texts.dueGood("field 002 00000000000000000000000000000000000030;stone 000 00 099;", 0);
        Texts.dueGood("field " + repeated("0", 700) + "2 2;", 0);
        Texts.dueErrorAt(RANGE, "field @" + repeated("0", 700) + "31 2;");
        Texts.dueErrorAt(RANGE, "field @" + repeated("9", 700) + " 2;");
        Texts.dueErrorAt(RANGE, "field @2" + repeated("0", 700) + " 2;");
        for (String wrapped : new String[] {"258", "65538", "4294967298", "18446744073709551618",
            "340282366920938463463374607431768211458", "10002", "20002", "100002", "2147483650"}) {
            Texts.dueErrorAt(RANGE, "field @" + wrapped + " 2;");
            Texts.dueErrorAt(RANGE, "field 2 2;stone @" + wrapped + " 2 1;");
            Texts.dueErrorAt(RANGE, "field 2 2;score @" + wrapped + "0000;");
        }
        Texts.dueErrorAt(SYNTAX, "field @/2 2;");
        Texts.dueErrorAt(SYNTAX, "field 2@/2 2;");
        Texts.dueErrorAt(SYNTAX, "field @:2 2;");
        Texts.dueErrorAt(SYNTAX, "field 2@: 2;");
        Texts.dueErrorAt(SYNTAX, "field 2@.5 2;");
        Texts.dueErrorAt(SYNTAX, "field @-2 2;");
        Texts.dueErrorAt(SYNTAX, "field @+2 2;");
        CornerClaims claims = Texts.loaded("field 9 9;polygon 0 0 0 1 0 0 1;score 0123*0000000000045;");
        Due.answer("score(0) by numbers with zeros before them", claims.score(0), 5535);
        claims = Texts.loaded("field 9 9;polygon 0 0 0 1 0 0 1;score 5678+9000+0;");
        Due.answer("score(0) by all digits", claims.score(0), 14678);
    }

    private static void words() {
        Due.sentence(3, "a word is a run of the letters a to z.");
        Texts.dueErrorAt(SYNTAX, "@Field 2 2;");
        Texts.dueErrorAt(SYNTAX, "@FIELD 2 2;");
        Texts.dueErrorAt(SYNTAX, "field@Z2 2;");
        Texts.dueErrorAt(SYNTAX, "field@`2 2;");
        Texts.dueErrorAt(SYNTAX, "field@{2 2;");
        Texts.dueErrorAt(SYNTAX, "field@\u00e12 2;");
        Texts.dueErrorAt(SYNTAX, "field@_2 2;");
        Texts.dueErrorAt(SYNTAX, "@fielda2 2;");
        Texts.dueErrorAt(SYNTAX, "@fieldz2 2;");
        Texts.dueErrorAt(SYNTAX, "@afield2 2;");
        Texts.dueErrorAt(SYNTAX, "@zfield2 2;");
        // Each word with one letter that is another one, and with one that is missing.
        for (String[] token : TOKENS) {
            String word = token[0];
            for (int k = 0; k < word.length() && word.charAt(0) >= 'a'; k++) {
                char other = word.charAt(k) == 'z' ? 'a' : (char) (word.charAt(k) + 1);
                dueUnknown(word, word.substring(0, k) + other + word.substring(k + 1));
                dueUnknown(word, word.substring(0, k) + word.substring(k + 1));
            }
        }
    }

    /** The first one of these words is where the grammar allows it; in its place is the other one. */
    private static void dueUnknown(String word, String other) {
        StringBuilder before = new StringBuilder();
        for (int k = 0; !TOKENS[k][0].equals(word); k++) {
            before.append(TOKENS[k][0]).append(' ');
        }
        Texts.dueError(before + other + " 1 1 1;", SYNTAX, before.length());
    }

    private static void longestRuns() {
        Due.sentence(3, "Each run is as long as possible.");
        Texts.dueErrorAt(SYNTAX, "field 22@;");
        Texts.dueErrorAt(RANGE, "field @222;");
        Texts.dueErrorAt(SYNTAX, "field 30 30;stone 1 11@;");
        Texts.dueErrorAt(SYNTAX, "field 9 9;@stones 1 1;");
        Texts.dueErrorAt(SYNTAX, "field 9 9;score @areaarea;");
        Texts.dueErrorAt(SYNTAX, "field 9 9;score @stonescorners;");
        Texts.dueErrorAt(SYNTAX, "field 9 9;@scorearea;");
        Texts.dueErrorAt(SYNTAX, "field 9 9;@polygonpolygon;");
    }

    private static void spaces() {
        Due.sentence(3, "Spaces (byte 32) may precede any token and may follow the last one;"
                + " a word and a number side by side need none between them.");
        for (String gap : new String[] {" ", "  ", "     "}) {
            StringBuilder text = new StringBuilder();
            for (String[] token : TOKENS) {
                text.append(gap).append(token[0]);
            }
            Texts.dueGood(text + gap, 1);
        }
        Texts.dueGood("field9 9;stone1 1 1;polygon0 4 4 6 4 4 6;score2*area;", 1);
        Texts.dueGood("field 9 9;", 0);
        Texts.dueGood(repeated(" ", 700) + "field 9 9;" + repeated(" ", 90), 0);
        Texts.dueErrorAt(SYNTAX, repeated(" ", 800) + "@");
        Texts.dueErrorAt(SYNTAX, "@fie ld 9 9;");
        Texts.dueErrorAt(SYNTAX, "field 9 9 @9;");
        Texts.dueErrorAt(SYNTAX, "field 9 9;score @s tones;");
        Texts.dueErrorAt(SYNTAX, "field 9 9;score 3@area;");
    }

    private static void noOtherByte() {
        Due.sentence(3, "No other byte separates tokens.");
        for (int b = 0; b < 256; b++) {
            char sign = (char) b;
            if (b == ' ') {
                Texts.dueGood("field 2 2; ", 0);
                continue;
            }
            Texts.dueError("field 2 2;" + sign, SYNTAX, 10);
            Texts.dueError(sign + "field 2 2;", SYNTAX, 0);
            boolean isDigit = b >= '0' && b <= '9';
            boolean isLetter = b >= 'a' && b <= 'z';
            if (!isDigit) {
                Texts.dueError("field 2 2" + sign + ";", SYNTAX, b == ';' ? 10 : 9);
                Texts.dueError("field" + sign + "2 2;", SYNTAX, isLetter ? 0 : 5);
            }
            // A digit parts nothing: the three are one number.
            Texts.dueError("field 2" + sign + "2;", isDigit ? RANGE : SYNTAX, isDigit ? 6 : 7);
        }
    }

    /** A text whose token at the place is another one; the error is at this place, if there is one. */
    private static void tokensOfGrammar() {
        Due.sentence(3, "a token or byte that the grammar does not allow here, at its first byte;");
        for (int place = 0; place < TOKENS.length; place++) {
            List<String> allowed = Arrays.asList(TOKENS[place][1].split(" "));
            StringBuilder before = new StringBuilder();
            for (int k = 0; k < place; k++) {
                before.append(TOKENS[k][0]).append(' ');
            }
            for (String other : ALL) {
                // A second score is not allowed either.
                if (!allowed.contains(other) || other.equals("score") && place > 18) {
                    Texts.dueError(before + other + " 1 ;", SYNTAX, before.length());
                    Texts.dueError(before + other, SYNTAX, before.length());
                }
            }
        }
    }

    private static void endsOfText() {
        Due.sentence(3, "the end of the text, at its length, if the text ends too early;");
        StringBuilder text = new StringBuilder();
        int polygons = 0;
        for (int place = 0; place < TOKENS.length; place++) {
            boolean isWhole = place > 0 && TOKENS[place - 1][0].equals(";");
            polygons += place == 18 ? 1 : 0;
            String part = text.toString();
            for (String end : new String[] {"", " ", "   "}) {
                if (isWhole) {
                    Texts.dueGood(part + end, polygons);
                } else {
                    Texts.dueError(part + end, SYNTAX, part.length() + end.length());
                }
            }
            text.append(' ').append(TOKENS[place][0]);
        }
        Texts.dueGood(text.toString(), 1);
    }

    private static void repetitions() {
        Due.sentence(3, "setup     = \"field\" number number \";\" { statement \";\" }");
        Texts.dueGood("field 9 9;", 0);
        StringBuilder text = new StringBuilder("field 30 2;score 1;");
        for (int k = 0; k < 20; k++) {
            text.append("stone ").append(k).append(" 0 1;");
        }
        for (int k = 0; k < 6; k++) {
            text.append("polygon 0 2").append(k).append(" 0 2").append(k).append(" 1 2").append(k + 1)
                    .append(" 2;");
        }
        Texts.dueGood(text.toString(), 6);
        Due.sentence(3, "sum       = term { ( \"+\" | \"-\" ) term }");
        CornerClaims claims = Texts.loaded("field 9 9;polygon 0 0 0 1 0 0 1;score 1" + repeated("+1", 377) + ";");
        Due.answer("score(0) by 378 terms", claims.score(0), 378);
        Due.sentence(3, "term      = factor { ( \"*\" | \"/\" ) factor }");
        claims = Texts.loaded("field 9 9;polygon 0 0 0 1 0 0 1;score 5" + repeated("*2/2", 188) + ";");
        Due.answer("score(0) by 377 factors", claims.score(0), 5);
        Due.sentence(3, "factor    = number | \"area\" | \"stones\" | \"corners\" | \"dents\" | \"inner\" |"
                + " \"(\" sum \")\"");
        claims = Texts.loaded("field 9 9;polygon 0 0 0 1 0 0 1;score 1-(1-(1-(1-(1-1*3)*2)*2)*2)*2;");
        Due.answer("score(0) by sums in parentheses", claims.score(0), -37);
        Texts.dueErrorAt(SYNTAX, "field 9 9;score (@);");
        Texts.dueErrorAt(SYNTAX, "field 9 9;score 2@(3);");
    }

    private static void closedAtSemicolon() {
        Due.sentence(3, "the polygon is closed at the semicolon.");
        CornerClaims claims = Texts.loaded("field 9 9;polygon 0 0 0 1 0 0 1;polygon 1 3 3 5 3 3 5;");
        Due.answer("polygon(0, 2)", claims.polygon(0, 2), 1);
        Due.answer("polygon(1, 2)", claims.polygon(1, 2), 1);
        Due.answer("count(4)", claims.count(4), 2);
        // Not before: a corner may be added across the side that is to come.
        Texts.dueGood("field 9 9;polygon 0 1 1 5 1 5 5 1 5 0 3;", 1);
        Texts.dueErrorAt(CornerClaims.REFUSED, "field 9 9;polygon 0 1 1 5 1 5 5 1 5;polygon 0 0 3 2 @3;");
    }

    private static void factors() {
        Due.sentence(3, "A number as a factor is 0 to 9999.");
        Texts.dueGood("field 9 9;score 0;", 0);
        Texts.dueGood("field 9 9;score 9999;", 0);
        Texts.dueErrorAt(RANGE, "field 9 9;score @10000;");
        Texts.dueErrorAt(RANGE, "field 9 9;score 9999*@10000;");
        Texts.dueErrorAt(RANGE, "field 9 9;score 9999+(@10000);");
        Texts.dueErrorAt(SYNTAX, "field 9 9;score @-1;");
        CornerClaims claims = Texts.loaded("field 9 9;polygon 0 0 0 1 0 0 1;score 9999;");
        Due.answer("score(0)", claims.score(0), 9999);
        claims = Texts.loaded("field 9 9;polygon 0 0 0 1 0 0 1;score 0;");
        Due.answer("score(0)", claims.score(0), 0);
    }

    private static void parentheses() {
        Due.sentence(3, "Parentheses nest at most 4 deep.");
        Texts.dueGood("field 9 9;score ((((1))));", 0);
        Texts.dueGood("field 9 9;score ((((1))))*((((1))))+((((1))));", 0);
        Texts.dueGood("field 9 9;score (1+(1+(1+(1)+(1))+(1))+(1))+(1);", 0);
        Texts.dueErrorAt(CornerClaims.TOO_DEEP, "field 9 9;score ((((@(1)))));");
        Texts.dueErrorAt(CornerClaims.TOO_DEEP, "field 9 9;score 2*(3+(4*(5+(6*@(7)))));");
        CornerClaims claims = Texts.loaded("field 9 9;polygon 0 0 0 1 0 0 1;"
                + "score 9-2*(9-2*(9-2*(9-2*(9-2*1))));");
        Due.answer("score(0) by 4 in one another", claims.score(0), 67);
    }

    private static void scoreOnce() {
        Due.sentence(3, "The statement score may occur once.");
        Texts.dueGood("field 9 9;score 1;", 0);
        Texts.dueErrorAt(SYNTAX, "field 9 9;score 1;@score 1;");
        Texts.dueErrorAt(SYNTAX, "field 9 9;score 1;stone 1 1 1;@score 1;");
        CornerClaims claims = Texts.loaded("field 9 9;score 1;");
        Due.answer("load with a score again", Texts.load(claims, "field 9 9;score 2;"), 0);
        Due.answer("load with two scores", Texts.load(claims, "field 9 9;score 2;score 2;"), SYNTAX);
        Due.answer("load with a score after an error", Texts.load(claims, "field 9 9;score 2;"), 0);
    }
}

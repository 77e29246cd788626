import java.util.NoSuchElementException;

/** The sentences that name a boundary under "What it is" and "Field". */
final class EdgesOfFieldTest {
    private static final String EXTENTS = "A field has a width and a height (2 to 30 each).";
    private static final String POINTS =
            "Its points are the pairs x, y of integers with 0 <= x <= width and 0 <= y <= height.";
    private static final String NUMBER_OF_STONES = "At most 20 points are stones";
    private static final String VALUES = "a stone has a value (1 to 99).";
    private static final String FIELD = "field 5 9;";
    private static final int[][] OUTERMOST = {{0, 0}, {5, 0}, {5, 9}, {0, 9}};
    private static final int[][] BEYOND = {{-1, 0}, {6, 0}, {6, 9}, {-1, 9}, {0, -1}, {5, -1}, {0, 10},
        {5, 10}, {9, 5}, {-1, -1}, {6, 10}, {Integer.MIN_VALUE, 0}, {Integer.MAX_VALUE, 0},
        {0, Integer.MIN_VALUE}, {0, Integer.MAX_VALUE}};

    public static void main(String[] args) {
        allCallsOfAnObject();
        extents();
        pointsOfSetups();
        pointsOfQuestions();
        pointsOfChanges();
        numberOfStones();
        values();
        indexesOfStones();
        Due.end();
    }

    private static void allCallsOfAnObject() {
        String words = "An object is used for at most 512 calls after it has been made";
        Due.sentence(1, words);
        CornerClaims claims = new CornerClaims();
        for (int call = 1; call <= 510; call++) {
            Due.answer("begin, call " + call, claims.begin(0, 0, 0), call == 1 ? 0 : -3);
        }
        Due.answer("count(3), call 511", claims.count(3), 1);
        Due.answer("undo(), call 512", claims.undo(), 7);
        Due.sentence(3, words);
        claims = new CornerClaims();
        for (int call = 1; call <= 512; call += 4) {
            Due.answer("append, call " + call, Texts.append(claims, "field 9 9;score 1*9;"), 20);
            Due.answer("load, call " + (call + 1), claims.load(20), 0);
            Due.answer("begin, call " + (call + 2), claims.begin(0, 9, 9), 0);
            Due.answer("undo(), call " + (call + 3), claims.undo(), Math.min(call / 4 + 1, 7));
        }
    }

    private static void extents() {
        Due.sentence(3, EXTENTS);
        Texts.dueErrorAt(CornerClaims.OUT_OF_RANGE, "field @0 2;");
        Texts.dueErrorAt(CornerClaims.OUT_OF_RANGE, "field @1 2;");
        Texts.dueErrorAt(CornerClaims.OUT_OF_RANGE, "field @31 2;");
        Texts.dueErrorAt(CornerClaims.OUT_OF_RANGE, "field 30 @0;");
        Texts.dueErrorAt(CornerClaims.OUT_OF_RANGE, "field 30 @1;");
        Texts.dueErrorAt(CornerClaims.OUT_OF_RANGE, "field 30 @31;");
        Texts.dueGood("field 2 2;", 0);
        Texts.dueGood("field 30 30;", 0);
        Due.sentence(5, EXTENTS);
        int[][] fields = {{2, 2}, {2, 30}, {30, 2}, {30, 30}, {3, 29}};
        for (int[] field : fields) {
            CornerClaims claims = Texts.loaded("field " + field[0] + " " + field[1] + ";");
            Due.answer("count(0)", claims.count(0), field[0]);
            Due.answer("count(1)", claims.count(1), field[1]);
        }
    }

    private static void pointsOfSetups() {
        Due.sentence(3, POINTS);
        Texts.dueGood(FIELD + "stone 0 0 1;stone 5 0 1;stone 5 9 1;stone 0 9 1;", 0);
        Texts.dueGood(FIELD + "polygon 0 0 0 5 0 5 9 0 9;", 1);
        Texts.dueGood(FIELD + "polygon 0 5 9 0 9 0 0 5 0;", 1);
        Texts.dueErrorAt(CornerClaims.OUT_OF_RANGE, FIELD + "stone @6 0 1;");
        Texts.dueErrorAt(CornerClaims.OUT_OF_RANGE, FIELD + "stone 0 @10 1;");
        Texts.dueErrorAt(CornerClaims.OUT_OF_RANGE, FIELD + "polygon 0 @6 0 0 0 0 1;");
        Texts.dueErrorAt(CornerClaims.OUT_OF_RANGE, FIELD + "polygon 0 0 @10 0 0 0 1;");
        Texts.dueErrorAt(CornerClaims.OUT_OF_RANGE, FIELD + "polygon 0 0 0 @6 0 0 1;");
        Texts.dueErrorAt(CornerClaims.OUT_OF_RANGE, FIELD + "polygon 0 0 0 0 @10 0 1;");
        Texts.dueErrorAt(CornerClaims.OUT_OF_RANGE, FIELD + "polygon 0 0 0 0 1 5 @10;");
    }

    private static void pointsOfQuestions() {
        Due.sentence(9, POINTS);
        CornerClaims open = Texts.loaded(FIELD);
        open.begin(0, 2, 3);
        for (int[] point : OUTERMOST) {
            Due.answer("reason", open.reason(0, point[0], point[1]), 0);
        }
        for (int[] point : BEYOND) {
            Due.thrown("reason(0, " + point[0] + ", " + point[1] + ")", IllegalArgumentException.class,
                    () -> open.reason(0, point[0], point[1]));
        }
        Due.sentence(10, POINTS);
        CornerClaims closed = Texts.loaded(FIELD + "polygon 0 2 3 3 3 2 4;");
        for (int[] point : OUTERMOST) {
            Due.answer("where", closed.where(0, point[0], point[1]), 0);
        }
        for (int[] point : BEYOND) {
            Due.thrown("where(0, " + point[0] + ", " + point[1] + ")", IllegalArgumentException.class,
                    () -> closed.where(0, point[0], point[1]));
        }
    }

    private static void pointsOfChanges() {
        Due.sentence(19, POINTS);
        CornerClaims begun = Texts.loaded(FIELD);
        for (int k = 0; k < 4; k++) {
            Due.answer("begin", begun.begin(0, OUTERMOST[k][0], OUTERMOST[k][1]), k);
        }
        for (int[] point : BEYOND) {
            Due.thrown("begin(0, " + point[0] + ", " + point[1] + ")", IllegalArgumentException.class,
                    () -> begun.begin(0, point[0], point[1]));
        }
        Due.sentence(20, POINTS);
        for (int[] point : OUTERMOST) {
            CornerClaims claims = Texts.loaded(FIELD);
            claims.begin(0, 2, 3);
            Due.answer("corner", claims.corner(0, point[0], point[1]), 2);
            Due.answer("cornerAt(0, 1)", claims.cornerAt(0, 1), 100 * point[0] + point[1]);
        }
        for (int[] point : BEYOND) {
            Due.thrown("corner(0, " + point[0] + ", " + point[1] + ")", IllegalArgumentException.class,
                    () -> begun.corner(0, point[0], point[1]));
        }
        Due.sentence(22, POINTS);
        CornerClaims bent = Texts.loaded(FIELD + "polygon 0 1 1 4 1 4 8 1 8;");
        for (int k = 0; k < 4; k++) {
            // The sides 0 and 2 are the lower and the upper one; a triangle of 3 is added to 42.
            Due.answer("bend", bent.bend(0, k < 2 ? 0 : 2, OUTERMOST[k][0], OUTERMOST[k][1]), 45);
            bent.undo();
        }
        for (int[] point : BEYOND) {
            Due.thrown("bend(0, 0, " + point[0] + ", " + point[1] + ")", IllegalArgumentException.class,
                    () -> bent.bend(0, 0, point[0], point[1]));
        }
    }

    private static String stones(int number) {
        StringBuilder text = new StringBuilder("field 30 2;");
        for (int k = 0; k < number; k++) {
            text.append("stone ").append(k).append(" 0 ").append(k + 1).append(';');
        }
        return text.toString();
    }

    private static void numberOfStones() {
        Due.sentence(3, NUMBER_OF_STONES);
        Texts.dueGood(stones(20), 0);
        Texts.dueErrorAt(CornerClaims.TOO_MANY, stones(20) + "@stone 20 0 1;");
        Due.sentence(5, NUMBER_OF_STONES);
        CornerClaims claims = Texts.loaded(stones(20));
        Due.answer("count(2)", claims.count(2), 20);
        Due.answer("load of 21", Texts.load(claims, stones(20) + "stone 20 0 1;"), -5);
        Due.answer("count(2)", claims.count(2), 20);
        Due.answer("load of none", Texts.load(claims, stones(0)), 0);
        Due.answer("count(2)", claims.count(2), 0);
    }

    private static void values() {
        Due.sentence(3, VALUES);
        Texts.dueErrorAt(CornerClaims.OUT_OF_RANGE, FIELD + "stone 1 1 @0;");
        Texts.dueErrorAt(CornerClaims.OUT_OF_RANGE, FIELD + "stone 1 1 @100;");
        Texts.dueGood(FIELD + "stone 1 1 1;stone 2 2 99;", 0);
        Due.sentence(6, VALUES);
        CornerClaims claims = Texts.loaded(FIELD + "stone 1 1 1;stone 2 2 99;");
        Due.answer("stone(0, 2)", claims.stone(0, 2), 1);
        Due.answer("stone(1, 2)", claims.stone(1, 2), 99);
    }

    private static void indexesOfStones() {
        Due.sentence(6, "Stones have indexes from 0.");
        CornerClaims claims = Texts.loaded(stones(20));
        for (int stone = 0; stone < 20; stone++) {
            Due.answer("stone(" + stone + ", 0)", claims.stone(stone, 0), stone);
            Due.answer("stone(" + stone + ", 1)", claims.stone(stone, 1), 0);
            Due.answer("stone(" + stone + ", 2)", claims.stone(stone, 2), stone + 1);
        }
        for (int stone : new int[] {-1, 20, Integer.MIN_VALUE, Integer.MAX_VALUE}) {
            Due.thrown("stone(" + stone + ", 0)", NoSuchElementException.class,
                    () -> claims.stone(stone, 0));
        }
        CornerClaims empty = new CornerClaims();
        Due.thrown("stone(0, 0) without stones", NoSuchElementException.class, () -> empty.stone(0, 0));
    }
}

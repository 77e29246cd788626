import java.util.NoSuchElementException;

/** The sentences under "Changes". */
final class EdgesOfChangesTest {
    private static final String EACH_CALL = "each such call that does not throw an exception is a change,"
            + " also if all data stay as they were.";
    private static final String SUCCEEDS = "The changing methods are load (when it succeeds), begin, corner,"
            + " close, bend, takeOut and remove;";
    private static final String EIGHT =
            "The latest 8 changes that have not been undone can be undone, the latest one first.";
    private static final String BEFORE_LOAD = "Before the first successful load the width and the height are"
            + " 2, and there are no stones and no polygons.";
    private static final String INDEX = "a parameter named polygon is the index of a polygon; otherwise"
            + " IndexOutOfBoundsException is thrown.";
    private static final String ORDER = "If several exceptions apply to a call, the one that is listed first"
            + " with the method is thrown.";
    private static final String NOTHING = "A method that throws an exception changes nothing.";
    private static final int[] FAR = {-1, Integer.MIN_VALUE, Integer.MAX_VALUE};
    private static final int REFUSED_CALLS = 19;

    /** A method that is given the index of a polygon. */
    interface OfPolygon {
        int answer(CornerClaims claims, int polygon);
    }

    public static void main(String[] args) {
        refusedCalls();
        acceptedCalls();
        callsThatAreNone();
        eight();
        againAfterUndo();
        beforeTheFirstLoad();
        indexes();
        firstListed();
        nothingByExceptions();
        Due.end();
    }

    /** Made by 8 changes: 0 is a square with a stone on its diagonal, 1 open, 2 a triangle, 3 a corner. */
    private static CornerClaims refusing() {
        CornerClaims claims = Texts.loaded("field 30 9;stone 4 4 1;polygon 0 2 2 8 2 8 8 2 8;");
        Draw.open(claims, 0, 12, 2, 20, 2);
        Draw.closed(claims, 1, 22, 2, 24, 2, 22, 4);
        Draw.open(claims, 3, 16, 1);
        return claims;
    }

    private static int refused(CornerClaims claims, int call) {
        switch (call) {
            case 0:
                return claims.begin(0, 4, 4);
            case 1:
                return claims.begin(0, 2, 2);
            case 2:
                return claims.begin(0, 2, 5);
            case 3:
                return claims.corner(0, 5, 5);
            case 4:
                return claims.corner(1, 4, 4);
            case 5:
                return claims.corner(1, 12, 2);
            case 6:
                return claims.corner(1, 11, 2);
            case 7:
                return claims.corner(1, 15, 2);
            case 8:
                return claims.close(0);
            case 9:
                return claims.close(1);
            case 10:
                return claims.bend(1, 0, 15, 5);
            case 11:
                return claims.bend(0, 0, 4, 4);
            case 12:
                return claims.bend(0, 0, 9, 2);
            case 13:
                return claims.bend(0, 0, 5, 9);
            case 14:
                return claims.bend(0, 3, 8, 8);
            case 15:
                return claims.takeOut(1, 0);
            case 16:
                return claims.takeOut(2, 0);
            case 17:
                return claims.takeOut(0, 1);
            default:
                return claims.corner(3, 14, 3);
        }
    }

    private static void refusedCalls() {
        int[] promises = {19, 19, 19, 20, 20, 20, 20, 20, 21, 21, 22, 22, 22, 22, 22, 23, 23, 23, 20};
        int[] due = {-3, -3, -3, -1, -3, -3, -4, -5, -1, -6, -1, -3, -4, -5, -3, -1, -6, -4, -5};
        for (int call = 0; call < REFUSED_CALLS; call++) {
            Due.sentence(promises[call], EACH_CALL);
            CornerClaims claims = refusing();
            long sum = claims.checksum();
            Due.answer("refused call " + call, refused(claims, call), due[call]);
            Due.answer("checksum() then", claims.checksum(), sum);
            Due.answer("undo() of the refused call", claims.undo(), 7);
            Due.answer("checksum() then", claims.checksum(), sum);
            Due.answer("undo() of the last begin", claims.undo(), 6);
            Due.answer("count(3) then", claims.count(3), 3);
            for (int k = 5; k >= 0; k--) {
                Due.answer("undo()", claims.undo(), k);
            }
            // The load was the first of 9 changes, so that it stays.
            Due.answer("undo() of the load", claims.undo(), -1);
            Due.answer("count(3) then", claims.count(3), 1);
        }
    }

    private static void acceptedCalls() {
        CornerClaims claims = new CornerClaims();
        Due.sentence(3, EACH_CALL);
        Texts.load(claims, "field 9 9;polygon 0 0 0 4 0 0 4;");
        Due.answer("undo() of load", claims.undo(), 0);
        Texts.load(claims, "field 9 9;polygon 0 0 0 4 0 0 4;");
        Texts.load(claims, "field 9 9;polygon 0 0 0 4 0 0 4;");
        Due.answer("undo() of the same load again", claims.undo(), 1);
        Due.answer("count(3) then", claims.count(3), 1);
        Due.sentence(19, EACH_CALL);
        claims.begin(0, 9, 9);
        Due.answer("undo() of begin", claims.undo(), 1);
        Due.answer("count(3) then", claims.count(3), 1);
        claims.begin(0, 9, 9);
        Due.sentence(20, EACH_CALL);
        claims.corner(1, 7, 9);
        Due.answer("undo() of corner", claims.undo(), 2);
        Due.answer("polygon(1, 1) then", claims.polygon(1, 1), 1);
        claims.corner(1, 7, 9);
        claims.corner(1, 9, 7);
        Due.sentence(21, EACH_CALL);
        claims.close(1);
        Due.answer("undo() of close", claims.undo(), 4);
        Due.answer("polygon(1, 2) then", claims.polygon(1, 2), 0);
        Due.sentence(22, EACH_CALL);
        claims.bend(0, 0, 1, 1);
        Due.answer("undo() of bend", claims.undo(), 4);
        Due.answer("area(0) then", claims.area(0), 16);
        Due.answer("cornerAt(0, 1) then", claims.cornerAt(0, 1), 400);
        claims.bend(0, 0, 1, 1);
        Due.sentence(23, EACH_CALL);
        claims.takeOut(0, 1);
        Due.answer("undo() of takeOut", claims.undo(), 5);
        Due.answer("cornerAt(0, 1) then", claims.cornerAt(0, 1), 101);
        Due.sentence(24, EACH_CALL);
        claims.remove(0);
        Due.answer("undo() of remove", claims.undo(), 5);
        Due.answer("count(3) then", claims.count(3), 2);
        Due.answer("cornerAt(0, 1) then", claims.cornerAt(0, 1), 101);
    }

    private static void callsThatAreNone() {
        Due.sentence(3, SUCCEEDS);
        CornerClaims claims = new CornerClaims();
        for (String text : new String[] {"field 9", "field 1 9;", "field 9 9;polygon 0 0 0;",
            "field 9 9;score (((((1)))));", "", "field 9 9;stone 1 1 1;#"}) {
            Due.answer("load of \"" + text + "\" fails", Texts.load(claims, text) < 0 ? 1 : 0, 1);
            Due.answer("undo() then", claims.undo(), -1);
        }
        StringBuilder many = new StringBuilder("field 30 9;");
        for (int k = 0; k <= 20; k++) {
            many.append("stone ").append(k).append(" 0 1;");
        }
        Due.answer("load of too many", Texts.load(claims, many.toString()), CornerClaims.TOO_MANY);
        Due.answer("undo() then", claims.undo(), -1);
        Due.sentence(25, SUCCEEDS);
        Texts.load(claims, "field 9 9;stone 1 1 1;polygon 0 0 0 4 0 0 4;");
        claims.append(0, 0, 0, 0, 0);
        claims.errorOffset();
        claims.count(0);
        claims.stone(0, 0);
        claims.polygon(0, 0);
        claims.cornerAt(0, 0);
        claims.reason(0, 9, 9);
        claims.where(0, 9, 9);
        long told = claims.area(0) + claims.border(0) + claims.inner(0) + claims.dents(0)
                + claims.parent(0) + claims.score(0) + claims.points(0) + claims.leader();
        Due.answer("what is told", told, 16 + 12 + 3 + 0 - 1 + 17 + 17 + 0);
        claims.checksum();
        Due.answer("undo() of the load", claims.undo(), 0);
        Due.answer("undo() of nothing", claims.undo(), -1);
        Due.answer("undo() is no change", claims.undo(), -1);
    }

    /** Each change begins a polygon or removes one, so that count(3) tells which ones were undone. */
    private static void eight() {
        for (int changes = 0; changes <= 20; changes++) {
            Due.sentence(25, EIGHT);
            CornerClaims claims = new CornerClaims();
            for (int k = 0; k < changes; k++) {
                change(claims, k);
            }
            int rest = Math.max(0, changes - 8);
            for (int k = changes - 1; k >= rest; k--) {
                Due.answer("undo() after " + changes, claims.undo(), k - rest);
                Due.answer("count(3) before change " + k, claims.count(3), polygonsAfter(k));
            }
            Due.answer("undo() of one more after " + changes, claims.undo(), -1);
            Due.answer("count(3) then", claims.count(3), polygonsAfter(rest));
        }
    }

    private static void change(CornerClaims claims, int number) {
        if (number % 10 < 5) {
            claims.begin(0, number % 5 / 3, number % 5 % 3);
        } else {
            claims.remove(0);
        }
    }

    private static int polygonsAfter(int changes) {
        return changes % 10 <= 5 ? changes % 10 : 10 - changes % 10;
    }

    /** Changes, some undone, and changes again: 8 at the most, and those undone do not come back. */
    private static void againAfterUndo() {
        for (int undone = 1; undone <= 8; undone++) {
            for (int more = 1; more <= 10; more++) {
                Due.sentence(25, EIGHT);
                CornerClaims claims = Texts.loaded("field 30 9;");
                claims.begin(0, 0, 0);
                claims.corner(0, 1, 0);
                for (int k = 2; k <= 9; k++) {
                    claims.corner(0, k, k % 2);
                }
                for (int k = 0; k < undone; k++) {
                    Due.answer("undo()", claims.undo(), 7 - k);
                }
                int corners = 10 - undone;
                Due.answer("polygon(0, 1) then", claims.polygon(0, 1), corners);
                for (int k = 0; k < more; k++) {
                    claims.remove(0);
                    claims.begin(0, k, 9);
                }
                int left = Math.min(8, 8 - undone + 2 * more);
                for (int k = left - 1; k >= 0; k--) {
                    Due.answer("undo() of those left", claims.undo(), k);
                }
                Due.answer("undo() of one more", claims.undo(), -1);
                int old = left - 2 * more;
                Due.answer("count(3) then", claims.count(3), 1);
                Due.answer("the corners then", claims.polygon(0, 1), old >= 0 ? corners - old : 1);
                Due.answer("the first corner then", claims.cornerAt(0, 0) % 100, more > 4 ? 9 : 0);
            }
        }
    }

    private static void dueEmpty(CornerClaims claims) {
        int[] counts = {2, 2, 0, 0, 0, 0};
        for (int what = 0; what < counts.length; what++) {
            Due.answer("count(" + what + ")", claims.count(what), counts[what]);
        }
        Due.thrown("stone(0, 0)", NoSuchElementException.class, () -> claims.stone(0, 0));
        Due.thrown("polygon(0, 0)", IndexOutOfBoundsException.class, () -> claims.polygon(0, 0));
        Due.answer("checksum()", claims.checksum(), 0);
    }

    private static void beforeTheFirstLoad() {
        CornerClaims claims = new CornerClaims();
        Due.sentence(1, BEFORE_LOAD);
        dueEmpty(claims);
        Due.thrown("begin beyond the width", IllegalArgumentException.class, () -> claims.begin(0, 3, 0));
        Due.thrown("begin beyond the height", IllegalArgumentException.class, () -> claims.begin(0, 0, 3));
        Due.answer("begin in the farthest corner", claims.begin(0, 2, 2), 0);
        claims.undo();
        Due.sentence(3, BEFORE_LOAD);
        Texts.load(claims, "field 9 9;stone 1 1 1;polygon 0 0 0 1 0 0 1;#");
        dueEmpty(claims);
        Due.sentence(25, BEFORE_LOAD);
        Texts.load(claims, "field 9 9;stone 4 4 1;polygon 0 0 0 1 0 0 1;");
        Due.answer("count(0)", claims.count(0), 9);
        claims.undo();
        dueEmpty(claims);
    }

    private static void indexes() {
        String[] names = {"polygon", "cornerAt", "reason", "where", "area", "border", "inner", "dents",
            "parent", "score", "corner", "close", "bend", "takeOut", "remove"};
        int[] promises = {7, 8, 9, 10, 11, 12, 13, 14, 15, 16, 20, 21, 22, 23, 24};
        OfPolygon[] methods = {(c, p) -> c.polygon(p, 0), (c, p) -> c.cornerAt(p, 0),
            (c, p) -> c.reason(p, 0, 0), (c, p) -> c.where(p, 0, 0), CornerClaims::area,
            CornerClaims::border, CornerClaims::inner, CornerClaims::dents, CornerClaims::parent,
            CornerClaims::score, (c, p) -> c.corner(p, 0, 0), CornerClaims::close,
            (c, p) -> c.bend(p, 0, 0, 0), (c, p) -> c.takeOut(p, 0), CornerClaims::remove};
        for (int k = 0; k < names.length; k++) {
            Due.sentence(promises[k], INDEX);
            for (int polygons : new int[] {0, 1, 5, 6}) {
                CornerClaims claims = triangles(polygons);
                OfPolygon method = methods[k];
                for (int far : FAR) {
                    Due.thrown(names[k] + "(" + far + ")", IndexOutOfBoundsException.class,
                            () -> method.answer(claims, far));
                }
                Due.thrown(names[k] + "(" + polygons + ") of " + polygons, IndexOutOfBoundsException.class,
                        () -> method.answer(claims, polygons));
                for (int p = polygons - 1; p >= 0; p--) {
                    int got = method.answer(claims, p);
                    Due.answer(names[k] + "(" + p + ") throws nothing", got < -9 ? 0 : 1, 1);
                }
            }
            // One that was removed, and one of which the begin was undone.
            CornerClaims claims = triangles(2);
            claims.remove(0);
            claims.begin(0, 30, 9);
            claims.undo();
            OfPolygon method = methods[k];
            Due.thrown(names[k] + "(1) then", IndexOutOfBoundsException.class,
                    () -> method.answer(claims, 1));
        }
    }

    private static CornerClaims triangles(int number) {
        StringBuilder text = new StringBuilder("field 30 9;");
        for (int k = 0; k < number; k++) {
            text.append("polygon 0 ").append(3 * k).append(" 0 ").append(3 * k + 1).append(" 0 ")
                    .append(3 * k).append(" 1;");
        }
        return Texts.loaded(text.toString());
    }

    private static void firstListed() {
        CornerClaims claims = Texts.loaded("field 9 9;stone 5 5 1;polygon 0 0 0 1 0 0 1;");
        claims.begin(0, 9, 9);
        Due.sentence(6, ORDER);
        Due.thrown("stone(1, 4)", NoSuchElementException.class, () -> claims.stone(1, 4));
        Due.thrown("stone(-1, -1)", NoSuchElementException.class, () -> claims.stone(-1, -1));
        Due.sentence(7, ORDER);
        Due.thrown("polygon(2, 3)", IndexOutOfBoundsException.class, () -> claims.polygon(2, 3));
        Due.thrown("polygon(-1, -1)", IndexOutOfBoundsException.class, () -> claims.polygon(-1, -1));
        Due.sentence(8, ORDER);
        Due.thrown("cornerAt(2, 3)", IndexOutOfBoundsException.class, () -> claims.cornerAt(2, 3));
        Due.thrown("cornerAt(-1, -1)", IndexOutOfBoundsException.class, () -> claims.cornerAt(-1, -1));
        Due.sentence(9, ORDER);
        Due.thrown("reason(2, 10, 0)", IndexOutOfBoundsException.class, () -> claims.reason(2, 10, 0));
        Due.thrown("reason(-1, 0, -1)", IndexOutOfBoundsException.class, () -> claims.reason(-1, 0, -1));
        Due.sentence(10, ORDER);
        Due.thrown("where(2, 10, 0)", IndexOutOfBoundsException.class, () -> claims.where(2, 10, 0));
        Due.thrown("where(-1, 0, -1)", IndexOutOfBoundsException.class, () -> claims.where(-1, 0, -1));
        Due.thrown("where(1, 10, 0)", IllegalArgumentException.class, () -> claims.where(1, 10, 0));
        Due.thrown("where(1, 0, -1)", IllegalArgumentException.class, () -> claims.where(1, 0, -1));
        Due.sentence(20, ORDER);
        Due.thrown("corner(2, 10, 0)", IndexOutOfBoundsException.class, () -> claims.corner(2, 10, 0));
        Due.thrown("corner(-1, 0, -1)", IndexOutOfBoundsException.class, () -> claims.corner(-1, 0, -1));
        Due.sentence(22, ORDER);
        Due.thrown("bend(2, 3, 10, 0)", IndexOutOfBoundsException.class, () -> claims.bend(2, 3, 10, 0));
        Due.thrown("bend(2, 0, 10, 0)", IndexOutOfBoundsException.class, () -> claims.bend(2, 0, 10, 0));
        Due.thrown("bend(-1, -1, 5, 5)", IndexOutOfBoundsException.class, () -> claims.bend(-1, -1, 5, 5));
        Due.thrown("bend(0, 3, 10, 0)", NoSuchElementException.class, () -> claims.bend(0, 3, 10, 0));
        Due.thrown("bend(0, -1, 0, -1)", NoSuchElementException.class, () -> claims.bend(0, -1, 0, -1));
        Due.sentence(23, ORDER);
        Due.thrown("takeOut(2, 3)", IndexOutOfBoundsException.class, () -> claims.takeOut(2, 3));
        Due.thrown("takeOut(-1, -1)", IndexOutOfBoundsException.class, () -> claims.takeOut(-1, -1));
        Due.sentence(19, ORDER);
        CornerClaims six = triangles(6);
        Due.thrown("begin(4, 9, 9) of a 7th", IllegalArgumentException.class, () -> six.begin(4, 9, 9));
        Due.thrown("begin(-1, 9, 9) of a 7th", IllegalArgumentException.class, () -> six.begin(-1, 9, 9));
        Due.thrown("begin(0, 31, 9) of a 7th", IllegalArgumentException.class, () -> six.begin(0, 31, 9));
        Due.thrown("begin(0, 9, -1) of a 7th", IllegalArgumentException.class, () -> six.begin(0, 9, -1));
        Due.thrown("begin(3, 9, 9) of a 7th", IllegalStateException.class, () -> six.begin(3, 9, 9));
    }

    /** An exception must not be a refusal first: what would be refused throws, and is no change. */
    private static void nothingByExceptions() {
        for (int promise : new int[] {3, 19, 20, 21, 22, 23, 24}) {
            Due.sentence(promise, NOTHING);
            CornerClaims claims = triangles(5);
            claims.begin(2, 30, 9);
            claims.corner(5, 25, 9);
            Texts.load(claims, "field 9");
            claims.append(0, 0, 0, 0, 0);
            long sum = claims.checksum();
            Class<?> due = promise == 3 ? IllegalArgumentException.class
                    : promise == 19 ? IllegalStateException.class : IndexOutOfBoundsException.class;
            Due.thrown("the call", due, () -> throwing(claims, promise));
            if (promise == 22 || promise == 23) {
                Due.thrown("takeOut(0, 3)", NoSuchElementException.class, () -> claims.takeOut(0, 3));
                Due.thrown("bend(0, 3, 9, 9)", NoSuchElementException.class,
                        () -> claims.bend(0, 3, 9, 9));
            }
            if (promise == 19 || promise == 20 || promise == 22) {
                Due.thrown("begin(4, 9, 9)", IllegalArgumentException.class, () -> claims.begin(4, 9, 9));
                Due.thrown("corner(5, 31, 9)", IllegalArgumentException.class,
                        () -> claims.corner(5, 31, 9));
                Due.thrown("bend(0, 0, 31, 9)", IllegalArgumentException.class,
                        () -> claims.bend(0, 0, 31, 9));
            }
            Due.answer("checksum() then", claims.checksum(), sum);
            Due.answer("count(0) then", claims.count(0), 30);
            Due.answer("errorOffset() then", claims.errorOffset(), 7);
            Due.answer("append then", claims.append(0, 0, 0, 0, 0), 40);
            Due.answer("undo() of corner", claims.undo(), 2);
            Due.answer("polygon(5, 1) then", claims.polygon(5, 1), 1);
            Due.answer("undo() of begin", claims.undo(), 1);
            Due.answer("undo() of load", claims.undo(), 0);
        }
    }

    private static int throwing(CornerClaims claims, int promise) {
        switch (promise) {
            case 3:
                return claims.load(21);
            case 19:
                return claims.begin(0, 9, 9);
            case 20:
                return claims.corner(6, 9, 9);
            case 21:
                return claims.close(6);
            case 22:
                return claims.bend(6, 0, 9, 9);
            case 23:
                return claims.takeOut(6, 0);
            default:
                return claims.remove(6);
        }
    }
}

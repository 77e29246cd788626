import java.util.NoSuchElementException;

/** Promise 23: takeOut. */
final class Promise23Test {
    public static void main(String[] args) {
        places();
        refusals();
        wrongInputs();
        Due.end();
    }

    private static void due(CornerClaims claims, int polygon, int... corners) {
        Due.answer("polygon(" + polygon + ", 1)", claims.polygon(polygon, 1), corners.length);
        for (int k = 0; k < corners.length; k++) {
            Due.answer("cornerAt(" + polygon + ", " + k + ")", claims.cornerAt(polygon, k), corners[k]);
        }
    }

    private static void places() {
        CornerClaims claims = Texts.loaded(
                "field 10 10;stone 6 7 3;polygon 1 2 2 8 2 8 8 5 9 2 8;");
        Due.answer("takeOut in the middle", claims.takeOut(0, 3), 72);
        due(claims, 0, 202, 802, 808, 208);
        Due.answer("it is closed", claims.polygon(0, 2), 1);
        Due.answer("takeOut of the first one", claims.takeOut(0, 0), 36);
        due(claims, 0, 802, 808, 208);
        Due.answer("stone(0, 3)", claims.stone(0, 3), 0);
        Due.answer("undo()", claims.undo(), 2);
        Due.answer("takeOut of the last one", claims.takeOut(0, 3), 36);
        due(claims, 0, 202, 802, 808);
        Due.answer("stone(0, 3)", claims.stone(0, 3), -1);
    }

    private static void refusals() {
        CornerClaims claims = Texts.loaded("field 10 10;stone 5 5 3;"
                + "polygon 1 2 2 8 2 8 8 2 8;polygon 2 0 0 1 0 0 1;polygon 0 3 3 4 3 3 4;");
        long sum = claims.checksum();
        Due.answer("takeOut of a triangle", claims.takeOut(1, 0), -6);
        Due.answer("takeOut with a stone on the line", claims.takeOut(0, 0), -4);
        Due.answer("takeOut with a corner and a stone on the line", claims.takeOut(0, 1), -4);
        Due.answer("nothing is changed", claims.checksum(), sum);
        claims.begin(0, 9, 9);
        Due.answer("takeOut of an open polygon", claims.takeOut(3, 0), -1);
        claims.corner(3, 10, 9);
        claims.corner(3, 10, 10);
        claims.corner(3, 9, 10);
        Due.answer("takeOut of an open polygon", claims.takeOut(3, 3), -1);
        claims.close(3);
        Due.answer("takeOut", claims.takeOut(3, 3), 1);
        dents();
        others();
    }

    private static void others() {
        CornerClaims claims = Texts.loaded("field 10 10;polygon 1 2 2 8 2 8 8 2 8;polygon 0 3 4 6 5 4 7;");
        Due.answer("takeOut across a side of another one", claims.takeOut(0, 0), -5);
        Due.answer("takeOut across a side of another one", claims.takeOut(0, 1), -5);
        Due.answer("takeOut across a side of another one", claims.takeOut(0, 2), -5);
        claims = Texts.loaded("field 10 10;polygon 1 2 2 8 2 8 8 2 8;polygon 0 4 6 5 6 5 7;");
        Due.answer("takeOut with a corner on the line", claims.takeOut(0, 0), -4);
        Due.answer("takeOut beside the other one", claims.takeOut(0, 1), 36);
        Due.answer("takeOut of a triangle", claims.takeOut(0, 1), -6);
    }

    /** A corner on the new line that goes itself, one that stays, and a side of its own in the way. */
    private static void dents() {
        CornerClaims claims = Texts.loaded("field 10 10;polygon 1 0 0 5 0 10 0 10 10 0 10;");
        Due.answer("takeOut of a corner without an angle", claims.takeOut(0, 1), 200);
        due(claims, 0, 0, 1000, 1010, 10);
        claims = Texts.loaded("field 10 10;polygon 1 0 0 6 0 6 6 3 3 0 6;");
        Due.answer("takeOut with its own corner on the line", claims.takeOut(0, 1), -4);
        Due.answer("takeOut of the dent", claims.takeOut(0, 3), 72);
        claims = Texts.loaded("field 10 10;polygon 1 0 0 6 0 6 6 3 2 0 6;");
        Due.answer("takeOut with its own side on the line", claims.takeOut(0, 1), -5);
        claims = Texts.loaded("field 10 10;polygon 0 0 0 5 10 10 0 5 1;");
        Due.answer("takeOut to the other sense", claims.takeOut(0, 1), 10);
        due(claims, 0, 0, 1000, 501);
    }

    private static void wrongInputs() {
        CornerClaims claims = Texts.loaded("field 5 9;polygon 0 4 4 5 4 4 5;");
        claims.begin(0, 0, 0);
        long sum = claims.checksum();
        for (int polygon : new int[] {-1, 2, 6, Integer.MIN_VALUE, Integer.MAX_VALUE}) {
            for (int place : new int[] {-1, 0, 3}) {
                Due.thrown("takeOut(" + polygon + ", " + place + ")", IndexOutOfBoundsException.class,
                        () -> claims.takeOut(polygon, place));
            }
        }
        for (int place : new int[] {-1, 3, 12, Integer.MIN_VALUE, Integer.MAX_VALUE}) {
            Due.thrown("takeOut(0, " + place + ")", NoSuchElementException.class,
                    () -> claims.takeOut(0, place));
        }
        Due.thrown("takeOut(1, 1) of an open one", NoSuchElementException.class,
                () -> claims.takeOut(1, 1));
        Due.answer("checksum() is as before", claims.checksum(), sum);
        Due.answer("undo() knows load and begin", claims.undo(), 1);
    }
}

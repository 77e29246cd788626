import java.util.NoSuchElementException;

/** Promise 8: cornerAt. */
final class Promise08Test {
    public static void main(String[] args) {
        CornerClaims claims = Texts.loaded("field 30 30;polygon 0 30 29 4 0 0 4;polygon 2 30 0 28 1 27 0;");
        Due.answer("cornerAt(0, 0)", claims.cornerAt(0, 0), 3029);
        Due.answer("cornerAt(0, 1)", claims.cornerAt(0, 1), 400);
        Due.answer("cornerAt(0, 2)", claims.cornerAt(0, 2), 4);
        Due.answer("cornerAt(1, 0)", claims.cornerAt(1, 0), 3000);
        Due.answer("cornerAt(1, 1)", claims.cornerAt(1, 1), 2801);
        claims.begin(0, 0, 30);
        Due.answer("cornerAt(2, 0)", claims.cornerAt(2, 0), 30);
        Due.thrown("cornerAt(2, 1)", NoSuchElementException.class, () -> claims.cornerAt(2, 1));
        claims.corner(2, 1, 30);
        Due.answer("cornerAt(2, 1)", claims.cornerAt(2, 1), 130);
        for (int polygon : new int[] {-1, 3, 6, Integer.MIN_VALUE, Integer.MAX_VALUE}) {
            for (int place : new int[] {-1, 0, 12}) {
                Due.thrown("cornerAt(" + polygon + ", " + place + ")", IndexOutOfBoundsException.class,
                        () -> claims.cornerAt(polygon, place));
            }
        }
        for (int place : new int[] {-1, 3, 11, 12, Integer.MIN_VALUE, Integer.MAX_VALUE}) {
            Due.thrown("cornerAt(0, " + place + ")", NoSuchElementException.class,
                    () -> claims.cornerAt(0, place));
        }
        Due.end();
    }
}

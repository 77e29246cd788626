/** Promise 4: errorOffset. */
final class Promise04Test {
    public static void main(String[] args) {
        CornerClaims claims = new CornerClaims();
        Due.answer("errorOffset() without a load", claims.errorOffset(), -1);
        Due.thrown("load(1)", IllegalArgumentException.class, () -> claims.load(1));
        Due.answer("errorOffset() after a load that threw", claims.errorOffset(), -1);
        Texts.load(claims, "field 2 2;stone 1 3 1;");
        Due.answer("errorOffset() after an error", claims.errorOffset(), 18);
        Due.thrown("load(-1)", IllegalArgumentException.class, () -> claims.load(-1));
        Due.answer("errorOffset() after a load that threw", claims.errorOffset(), 18);
        claims.begin(0, 0, 0);
        claims.undo();
        Due.answer("errorOffset() after changes and undo", claims.errorOffset(), 18);
        Texts.load(claims, "field 2 2; ");
        Due.answer("errorOffset() after a good load", claims.errorOffset(), -1);
        Texts.load(claims, "field 2 2 ");
        Due.answer("errorOffset() at the end of the text", claims.errorOffset(), 10);
        claims.undo();
        Due.answer("errorOffset() after undo of a load", claims.errorOffset(), 10);
        claims.load(0);
        Due.answer("errorOffset() of an empty text", claims.errorOffset(), 0);
        Due.end();
    }
}

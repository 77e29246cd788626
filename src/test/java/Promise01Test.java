/** Promise 1: a new object has an empty field and an empty input buffer. */
final class Promise01Test {
    public static void main(String[] args) {
        CornerClaims claims = new CornerClaims();
        int[] due = {2, 2, 0, 0, 0, 0};
        for (int what = 0; what < due.length; what++) {
            Due.answer("count(" + what + ") of a new object", claims.count(what), due[what]);
        }
        Due.thrown("stone(0, 0) of a new object", java.util.NoSuchElementException.class,
                () -> claims.stone(0, 0));
        Due.thrown("polygon(0, 0) of a new object", IndexOutOfBoundsException.class,
                () -> claims.polygon(0, 0));
        for (int player = 0; player <= 3; player++) {
            Due.answer("points(" + player + ") of a new object", claims.points(player), 0);
        }
        Due.answer("leader() of a new object", claims.leader(), 0);
        Due.answer("checksum() of a new object", claims.checksum(), 0);
        Due.answer("errorOffset() of a new object", claims.errorOffset(), -1);
        Due.answer("undo() of a new object", claims.undo(), -1);
        Due.thrown("load(1) with an empty buffer", IllegalArgumentException.class,
                () -> claims.load(1));
        Due.answer("begin(0, 2, 2) on the empty field", claims.begin(0, 2, 2), 0);
        Due.thrown("begin(0, 3, 2) on the empty field", IllegalArgumentException.class,
                () -> claims.begin(0, 3, 2));
        Due.answer("two objects have data of their own", new CornerClaims().count(3), 0);
        plainScore();
        Due.end();
    }

    private static void plainScore() {
        CornerClaims claims = new CornerClaims();
        claims.begin(1, 0, 0);
        claims.corner(0, 2, 0);
        claims.corner(0, 0, 2);
        claims.close(0);
        Due.answer("score(0) without a load is the area", claims.score(0), 4);
    }
}

/** Promise 2: append. */
final class Promise02Test {
    private static final int SPACES = 0x20202020;

    public static void main(String[] args) {
        lengths();
        bytes();
        emptyAfterLoad();
        Due.end();
    }

    private static int appendSpaces(CornerClaims claims) {
        return claims.append(SPACES, SPACES, SPACES, SPACES, SPACES);
    }

    private static void lengths() {
        CornerClaims claims = new CornerClaims();
        Texts.append(claims, "field 7 9;");
        for (int k = 2; k <= 40; k++) {
            Due.answer("append " + k, appendSpaces(claims), 20 * k);
        }
        Due.answer("append to a full buffer", claims.append(0, 0, 0, 0, 0), -1);
        Due.answer("append to a full buffer again", claims.append(0, 0, 0, 0, 0), -1);
        Due.thrown("load(801)", IllegalArgumentException.class, () -> claims.load(801));
        Due.answer("load(800) of the buffer that was not changed", claims.load(800), 0);
        Due.answer("the width", claims.count(0), 7);
        Due.answer("the height", claims.count(1), 9);
    }

    private static void bytes() {
        // field 12 3;stone 4 5 -- the most significant byte comes first, the arguments in their order.
        CornerClaims claims = new CornerClaims();
        Due.answer("append of words",
                claims.append(0x6669656c, 0x64203132, 0x20333b73, 0x746f6e65, 0x20312032), 20);
        Due.answer("append of words", claims.append(0x2039373b, SPACES, SPACES, SPACES, SPACES), 40);
        Due.answer("load", claims.load(40), 0);
        Due.answer("the width", claims.count(0), 12);
        Due.answer("the height", claims.count(1), 3);
        Due.answer("the stone's x", claims.stone(0, 0), 1);
        Due.answer("the stone's y", claims.stone(0, 1), 2);
        Due.answer("the stone's value", claims.stone(0, 2), 97);
        int[] places = {24, 16, 8, 0};
        for (int word = 0; word < 5; word++) {
            for (int k = 0; k < 4; k++) {
                int[] words = {SPACES, SPACES, SPACES, SPACES, SPACES};
                words[word] |= 0x80 << places[k];
                claims.append(words[0], words[1], words[2], words[3], words[4]);
                Due.answer("load of a byte above 127", claims.load(20), CornerClaims.SYNTAX_ERROR);
                Due.answer("its offset", claims.errorOffset(), 4 * word + k);
            }
        }
    }

    private static void emptyAfterLoad() {
        CornerClaims claims = new CornerClaims();
        Texts.append(claims, "field 2 2;          ; and then some more that is not read");
        claims.load(20);
        Due.answer("append after a load", appendSpaces(claims), 20);
        claims.load(3);
        Due.answer("append after a load with an error", appendSpaces(claims), 20);
        Due.thrown("load(21)", IllegalArgumentException.class, () -> claims.load(21));
        Due.answer("append after a load that threw", appendSpaces(claims), 40);
        Due.answer("undo() leaves the buffer", claims.undo(), 0);
        Due.answer("append after undo", appendSpaces(claims), 60);
    }
}

/** Every method with every mixture of arguments at and beyond the edges, in several states. */
final class ExtremesTest {
    private static final int[] EDGES =
            {Integer.MIN_VALUE, -100, -1, 0, 1, 2, 3, 4, 5, 6, 9, 10, 11, 12, 20, Integer.MAX_VALUE};
    private static final String[] TEXTS = {
        "field 2 2;",
        "field 10 10;stone 3 3 5;stone 6 6 9;polygon 0 0 0 8 0 8 8 0 8;polygon 1 2 2 2 4 4 4 4 2;",
        "field 30 9;polygon 0 0 0 2 1 4 0 6 1 8 0 10 1 12 0 14 1 16 0 18 1 20 0 10 9;stone 10 3 1;",
        "field 12 12;polygon 0 0 0 12 0 12 12 0 12;polygon 1 1 1 11 1 11 11 1 11;"
                + "polygon 2 2 2 10 2 10 10 2 10;polygon 3 3 3 9 3 9 9 3 9;"
                + "polygon 0 4 4 8 4 8 8 4 8;polygon 1 5 5 7 5 7 7 5 7;stone 6 6 99;score area/stones;",
    };

    private final CornerClaims claims = new CornerClaims();
    private final Reference reference = new Reference();

    public static void main(String[] args) {
        for (String text : TEXTS) {
            for (int open = 0; open < 3; open++) {
                new ExtremesTest(text, open).all();
            }
        }
        Due.end();
    }

    private ExtremesTest(String text, int open) {
        Texts.append(claims, text);
        byte[] bytes = text.getBytes(java.nio.charset.StandardCharsets.ISO_8859_1);
        for (int at = 0; at < bytes.length; at += 20) {
            reference.append(Texts.word(bytes, at), Texts.word(bytes, at + 4), Texts.word(bytes, at + 8),
                    Texts.word(bytes, at + 12), Texts.word(bytes, at + 16));
        }
        same("load", () -> claims.load(bytes.length), reference.load(bytes.length));
        if (open > 0) {
            same("begin", () -> claims.begin(3, 0, 1), reference.begin(3, 0, 1));
        }
        if (open > 1) {
            int p = (int) reference.count(3) - 1;
            same("corner", () -> claims.corner(p, 1, 2), reference.corner(p, 1, 2));
        }
    }

    private void same(String call, Due.Call made, long due) {
        Reference.compare(call, made, due);
    }

    private void all() {
        for (int a : EDGES) {
            same("count", () -> claims.count(a), reference.count(a));
            same("points", () -> claims.points(a), reference.points(a));
            same("load", () -> claims.load(a), reference.load(a));
            same("errorOffset", claims::errorOffset, reference.errorOffset());
            same("area", () -> claims.area(a), reference.told("area", a));
            same("border", () -> claims.border(a), reference.told("border", a));
            same("inner", () -> claims.inner(a), reference.told("inner", a));
            same("dents", () -> claims.dents(a), reference.told("dents", a));
            same("parent", () -> claims.parent(a), reference.told("parent", a));
            same("score", () -> claims.score(a), reference.told("score", a));
            changing("close", () -> claims.close(a), reference.close(a));
            changing("remove", () -> claims.remove(a), reference.remove(a));
            for (int b : EDGES) {
                same("stone", () -> claims.stone(a, b), reference.stone(a, b));
                same("polygon", () -> claims.polygon(a, b), reference.polygon(a, b));
                same("cornerAt", () -> claims.cornerAt(a, b), reference.cornerAt(a, b));
                changing("takeOut", () -> claims.takeOut(a, b), reference.takeOut(a, b));
                for (int c : EDGES) {
                    three(a, b, c);
                }
            }
        }
    }

    private void three(int a, int b, int c) {
        same("reason", () -> claims.reason(a, b, c), reference.reason(a, b, c));
        same("where", () -> claims.where(a, b, c), reference.where(a, b, c));
        changing("begin", () -> claims.begin(a, b, c), reference.begin(a, b, c));
        changing("corner", () -> claims.corner(a, b, c), reference.corner(a, b, c));
        for (int d : EDGES) {
            changing("bend", () -> claims.bend(a, b, c, d), reference.bend(a, b, c, d));
        }
    }

    /** A change is undone at once; undo answers the same as it does there. */
    private void changing(String call, Due.Call made, long due) {
        same(call, made, due);
        if (due > Reference.ILLEGAL_STATE) {
            same("checksum after " + call, claims::checksum, reference.checksum());
            same("undo", claims::undo, reference.undo());
        }
    }
}

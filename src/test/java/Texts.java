import java.nio.charset.StandardCharsets;

/** Brings setup texts into objects. */
final class Texts {
    private Texts() {
    }

    /** An object that has read the text; the text must be without an error. */
    static CornerClaims loaded(String text) {
        CornerClaims claims = new CornerClaims();
        int got = load(claims, text);
        if (got < 0) {
            throw new IllegalArgumentException(
                    "error " + got + " at " + claims.errorOffset() + " in: " + text);
        }
        return claims;
    }

    /** Appends the text, with spaces behind it, and loads it without them. */
    static int load(CornerClaims claims, String text) {
        append(claims, text);
        return claims.load(text.length());
    }

    /** Appends the text with spaces up to the next multiple of 20. */
    static int append(CornerClaims claims, String text) {
        byte[] bytes = text.getBytes(StandardCharsets.ISO_8859_1);
        int length = 0;
        for (int at = 0; at < bytes.length; at += 20) {
            length = claims.append(word(bytes, at), word(bytes, at + 4), word(bytes, at + 8),
                    word(bytes, at + 12), word(bytes, at + 16));
        }
        return length;
    }

    static int word(byte[] bytes, int at) {
        int word = 0;
        for (int k = at; k < at + 4; k++) {
            word = word << 8 | (k < bytes.length ? bytes[k] & 255 : ' ');
        }
        return word;
    }

    /** Expects the text to have this error. */
    static void dueError(String text, int code, int offset) {
        CornerClaims claims = new CornerClaims();
        Due.answer("load of \"" + text + "\"", load(claims, text), code);
        Due.answer("errorOffset after \"" + text + "\"", claims.errorOffset(), offset);
    }

    /** Expects the text to be without an error, and to have so many polygons. */
    static void dueGood(String text, int polygons) {
        dueError(text, polygons, -1);
    }

    /** Expects the text to have this error at the sign '@', which is left out of it. */
    static void dueErrorAt(int code, String marked) {
        dueError(marked.replace("@", ""), code, marked.indexOf('@'));
    }
}

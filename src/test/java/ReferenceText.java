import java.math.BigInteger;

/** Reads a setup text for the Reference, character by character; stops by an exception of its own. */
final class ReferenceText {
    private static final class Stop extends RuntimeException {
        private static final long serialVersionUID = 1;
    }

    Reference.State state = new Reference.State();
    int error = 0;
    int errorOffset = -1;

    private final String text;
    private int at = 0;
    private int start = 0;

    ReferenceText(String text) {
        this.text = text;
    }

    void read() {
        try {
            setup();
        } catch (Stop stop) {
            state = null;
        }
    }

    private Stop stop(int code, int offset) {
        error = code;
        errorOffset = offset;
        return new Stop();
    }

    private char sign() {
        while (at < text.length() && text.charAt(at) == ' ') {
            at++;
        }
        start = at;
        return at < text.length() ? text.charAt(at) : '\0';
    }

    private String run(String signs) {
        sign();
        int end = at;
        while (end < text.length() && signs.indexOf(text.charAt(end)) >= 0) {
            end++;
        }
        return text.substring(at, end);
    }

    private void sign(char due) {
        if (sign() != due || at == text.length()) {
            throw stop(-2, start);
        }
        at++;
    }

    private int number(int least, int greatest) {
        String digits = run("0123456789");
        if (digits.isEmpty()) {
            throw stop(-2, start);
        }
        BigInteger value = new BigInteger(digits);
        if (value.compareTo(BigInteger.valueOf(least)) < 0
                || value.compareTo(BigInteger.valueOf(greatest)) > 0) {
            throw stop(-3, start);
        }
        at += digits.length();
        return value.intValue();
    }

    private void setup() {
        if (!run("abcdefghijklmnopqrstuvwxyz").equals("field")) {
            throw stop(-2, start);
        }
        at += 5;
        state.width = number(2, 30);
        state.height = number(2, 30);
        sign(';');
        boolean scored = false;
        while (true) {
            sign();
            if (at == text.length()) {
                return;
            }
            String word = run("abcdefghijklmnopqrstuvwxyz");
            if (word.equals("score") && !scored) {
                scored = true;
                at += 5;
                int from = at;
                sum(0);
                state.score = text.substring(from, at);
            } else if (word.equals("stone")) {
                stone();
            } else if (word.equals("polygon")) {
                polygon();
            } else {
                throw stop(-2, start);
            }
            if (!word.equals("polygon")) {
                sign(';');
            }
        }
    }

    private void stone() {
        if (state.stones.size() == 20) {
            throw stop(-5, start);
        }
        at += 5;
        int x = number(0, state.width);
        int y = number(0, state.height);
        if (Reference.occupied(state, new int[] {x, y})) {
            throw stop(-4, start);
        }
        state.stones.add(new int[] {x, y, number(1, 99)});
    }

    private void polygon() {
        if (state.polygons.size() == 6) {
            throw stop(-5, start);
        }
        at += 7;
        Reference.Polygon polygon = new Reference.Polygon();
        polygon.owner = number(0, 3);
        int x = number(0, state.width);
        int y = number(0, state.height);
        if (Reference.occupied(state, new int[] {x, y})) {
            throw stop(-4, start);
        }
        polygon.corners.add(new int[] {x, y});
        state.polygons.add(polygon);
        while (sign() >= '0' && sign() <= '9') {
            int[] corner = {number(0, state.width), number(0, state.height)};
            if (Reference.cornerReason(state, polygon, corner) != 0) {
                throw stop(-4, start);
            }
            polygon.corners.add(corner);
        }
        sign(';');
        if (Reference.closeReason(state, polygon) != 0) {
            throw stop(-4, start);
        }
        polygon.closed = true;
    }

    private void sum(int depth) {
        do {
            do {
                factor(depth);
            } while (more("*/"));
        } while (more("+-"));
    }

    private boolean more(String signs) {
        char sign = sign();
        if (at < text.length() && signs.indexOf(sign) >= 0) {
            at++;
            return true;
        }
        return false;
    }

    private void factor(int depth) {
        String word = run("abcdefghijklmnopqrstuvwxyz");
        if (sign() == '(') {
            if (depth == 4) {
                throw stop(-6, start);
            }
            at++;
            sum(depth + 1);
            sign(')');
        } else if (word.matches("area|stones|corners|dents|inner")) {
            at += word.length();
        } else {
            number(0, 9999);
        }
    }
}

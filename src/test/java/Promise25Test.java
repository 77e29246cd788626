import java.util.ArrayList;
import java.util.List;

/** Promise 25: undo. */
final class Promise25Test {
    private static final String SETUP =
            "field 12 9;stone 3 3 7;polygon 1 2 2 8 2 8 8 2 8;score area*2+stones;";

    public static void main(String[] args) {
        nothing();
        everyChange();
        onlyEight();
        afterUndo();
        loads();
        Due.end();
    }

    private static void nothing() {
        CornerClaims claims = new CornerClaims();
        Due.answer("undo() of a new object", claims.undo(), -1);
        Due.answer("undo() again", claims.undo(), -1);
        claims.load(0);
        Due.answer("undo() after a load with an error", claims.undo(), -1);
        claims.begin(0, 1, 1);
        Due.answer("undo()", claims.undo(), 0);
        Due.answer("undo()", claims.undo(), -1);
        Due.answer("count(3)", claims.count(3), 0);
    }

    private static void change(CornerClaims claims, int kind) {
        switch (kind) {
            case 0:
                claims.begin(2, 10, 1);
                break;
            case 1:
                claims.corner(1, 12, 1);
                break;
            case 2:
                claims.corner(1, 12, 4);
                break;
            case 3:
                claims.close(1);
                break;
            case 4:
                claims.bend(1, 1, 11, 2);
                break;
            case 5:
                claims.takeOut(0, 0);
                break;
            case 6:
                claims.remove(0);
                break;
            default:
                Texts.load(claims, "field 5 5;");
                break;
        }
    }

    /** Each change is undone to the state before it, one by one. */
    private static void everyChange() {
        CornerClaims claims = Texts.loaded(SETUP);
        List<Long> sums = new ArrayList<>();
        for (int kind = 0; kind < 8; kind++) {
            sums.add(claims.checksum() * 1000 + claims.count(0));
            change(claims, kind);
            Due.answer("change " + kind + " has changed something",
                    claims.checksum() * 1000 + claims.count(0) == sums.get(kind) ? 0 : 1, 1);
        }
        for (int kind = 7; kind >= 0; kind--) {
            Due.answer("undo() of change " + kind, claims.undo(), kind);
            Due.answer("checksum() before change " + kind,
                    claims.checksum() * 1000 + claims.count(0), sums.get(kind));
        }
        Due.answer("score(0)", claims.score(0), 151);
        Due.answer("undo() when none is left", claims.undo(), -1);
        Due.answer("score(0)", claims.score(0), 151);
    }

    private static void onlyEight() {
        CornerClaims claims = Texts.loaded("field 12 9;");
        for (int k = 0; k < 6; k++) {
            claims.begin(0, k, 0);
        }
        for (int k = 0; k < 6; k++) {
            claims.corner(k, k, 1);
        }
        for (int k = 7; k >= 0; k--) {
            Due.answer("undo()", claims.undo(), k);
        }
        Due.answer("undo() of a ninth", claims.undo(), -1);
        Due.answer("count(3)", claims.count(3), 4);
        Due.answer("polygon(0, 1)", claims.polygon(0, 1), 1);
        Due.answer("polygon(3, 1)", claims.polygon(3, 1), 1);
        // Refused changes are changes.
        for (int k = 0; k < 9; k++) {
            claims.begin(0, 0, 0);
            claims.close(0);
            claims.corner(0, 0, 0);
            claims.bend(0, 0, 5, 5);
            claims.takeOut(0, 0);
        }
        Due.answer("undo() of a refused change", claims.undo(), 7);
        Due.answer("count(3)", claims.count(3), 4);
    }

    private static void afterUndo() {
        CornerClaims claims = Texts.loaded("field 12 9;");
        claims.begin(0, 0, 0);
        claims.begin(0, 1, 0);
        claims.begin(0, 2, 0);
        Due.answer("undo()", claims.undo(), 3);
        Due.answer("undo()", claims.undo(), 2);
        claims.begin(1, 3, 0);
        Due.answer("cornerAt(1, 0)", claims.cornerAt(1, 0), 300);
        Due.answer("undo()", claims.undo(), 2);
        Due.answer("undo()", claims.undo(), 1);
        Due.answer("undo()", claims.undo(), 0);
        Due.answer("the width before the load", claims.count(0), 2);
        Due.answer("undo()", claims.undo(), -1);
        // A call that throws is no change.
        Due.thrown("remove(0)", IndexOutOfBoundsException.class, () -> claims.remove(0));
        Due.thrown("begin(0, 9, 9)", IllegalArgumentException.class, () -> claims.begin(0, 9, 9));
        Due.thrown("load(1)", IllegalArgumentException.class, () -> claims.load(1));
        Due.answer("undo()", claims.undo(), -1);
    }

    private static void loads() {
        CornerClaims claims = Texts.loaded(SETUP);
        long sum = claims.checksum();
        Texts.load(claims, "field 3 3;stone 1 1 1;stone 2 2 1;polygon 0 0 0 2 0 0 1;polygon 0 3 3 3 2 2 3;");
        Texts.load(claims, "field 4 4;score 3#");
        Texts.append(claims, "and something more");
        Due.answer("undo() of a load", claims.undo(), 1);
        Due.answer("checksum() then", claims.checksum(), sum);
        int[] due = {12, 9, 1, 1, 1, 1};
        for (int what = 0; what < due.length; what++) {
            Due.answer("count(" + what + ") then", claims.count(what), due[what]);
        }
        Due.answer("stone(0, 0) then", claims.stone(0, 0), 3);
        Due.answer("stone(0, 2) then", claims.stone(0, 2), 7);
        Due.answer("score(0) then", claims.score(0), 151);
        Due.answer("errorOffset() is not affected", claims.errorOffset(), 17);
        Due.answer("the buffer is not affected", claims.append(0, 0, 0, 0, 0), 40);
        Due.answer("undo() of the first load", claims.undo(), 0);
        Due.answer("count(0) then", claims.count(0), 2);
        Due.answer("count(2) then", claims.count(2), 0);
        claims.begin(0, 0, 0);
        claims.corner(0, 1, 0);
        claims.corner(0, 0, 1);
        claims.close(0);
        Due.answer("score(0) by no score statement", claims.score(0), 1);
    }
}

import java.math.BigInteger;
import java.util.ArrayList;
import java.util.List;
import java.util.NoSuchElementException;

/** The sentences of the promises themselves that name a boundary. */
final class EdgesOfMethodsTest {
    private static final int SPACES = 0x20202020;
    private static final int[] FAR = {-1, Integer.MIN_VALUE, Integer.MAX_VALUE};

    public static void main(String[] args) {
        newObject();
        appendedBytes();
        fullBuffer();
        loadedLengths();
        loadedData();
        codes();
        errorOffsets();
        kindsOfCounts();
        kindsOfStones();
        kindsOfPolygons();
        corners();
        begun();
        closed();
        sides();
        takenOut();
        removed();
        undone();
        checksums();
        Due.end();
    }

    private static int appendSpaces(CornerClaims claims) {
        return claims.append(SPACES, SPACES, SPACES, SPACES, SPACES);
    }

    private static void newObject() {
        Due.sentence(1, "Creates an object with an empty field, with an empty input buffer.");
        CornerClaims claims = new CornerClaims();
        Due.thrown("load(1)", IllegalArgumentException.class, () -> claims.load(1));
        Due.answer("count(2)", claims.count(2), 0);
        Due.answer("count(3)", claims.count(3), 0);
        Due.answer("append", appendSpaces(claims), 20);
        Due.answer("undo()", claims.undo(), -1);
        CornerClaims other = new CornerClaims();
        Due.answer("load(0)", other.load(0), CornerClaims.SYNTAX_ERROR);
        claims.begin(0, 1, 1);
        Due.answer("count(3) of another object", other.count(3), 0);
    }

    private static void appendedBytes() {
        Due.sentence(2, "the 4 bytes of each argument, the most significant byte first.");
        // Each byte in turn is one that is not allowed; the others are spaces.
        for (int at = 0; at < 20; at++) {
            for (int b : new int[] {0, 1, 31, 33, 127, 128, 129, 160, 254, 255}) {
                int[] words = {SPACES, SPACES, SPACES, SPACES, SPACES};
                int shift = 24 - at % 4 * 8;
                words[at / 4] = words[at / 4] & ~(255 << shift) | b << shift;
                CornerClaims claims = new CornerClaims();
                claims.append(words[0], words[1], words[2], words[3], words[4]);
                claims.load(20);
                Due.answer("the offset of byte " + b, claims.errorOffset(), at);
            }
        }
        CornerClaims claims = new CornerClaims();
        claims.append(0x6669656c, 0x64323020, 0x31373b20, SPACES, SPACES);
        Due.answer("load of \"field20 17;\"", claims.load(20), 0);
        Due.answer("count(0)", claims.count(0), 20);
        Due.answer("count(1)", claims.count(1), 17);
    }

    private static void fullBuffer() {
        Due.sentence(2, "Returns the new length of the buffer; -1 if it would exceed 800 bytes, and the"
                + " buffer is unchanged then.");
        CornerClaims claims = new CornerClaims();
        Texts.append(claims, "field 7 9;");
        for (int length = 40; length <= 780; length += 20) {
            Due.answer("append", appendSpaces(claims), length);
        }
        Due.answer("append, the 40th", Texts.append(claims, "stone 7 9 1;"), 800);
        Due.answer("append, the 41st", claims.append(-1, -1, -1, -1, -1), -1);
        Due.answer("append, the 42nd", claims.append(-1, -1, -1, -1, -1), -1);
        Due.thrown("load(801)", IllegalArgumentException.class, () -> claims.load(801));
        Due.thrown("load(820)", IllegalArgumentException.class, () -> claims.load(820));
        Due.answer("load(800)", claims.load(800), 0);
        Due.answer("count(0)", claims.count(0), 7);
        Due.answer("count(2)", claims.count(2), 1);
        Due.answer("append then", appendSpaces(claims), 20);
    }

    private static void loadedLengths() {
        Due.sentence(3, "if length is negative or greater than the length of the buffer; the buffer is"
                + " unchanged then");
        CornerClaims claims = new CornerClaims();
        for (int far : FAR) {
            Due.thrown("load(" + far + ")", IllegalArgumentException.class, () -> claims.load(far));
        }
        Due.thrown("load(1) of nothing", IllegalArgumentException.class, () -> claims.load(1));
        Texts.append(claims, "field 2 2;stone 1 1 9;");
        Due.thrown("load(41)", IllegalArgumentException.class, () -> claims.load(41));
        Due.thrown("load(-1)", IllegalArgumentException.class, () -> claims.load(-1));
        Due.answer("load(40)", claims.load(40), 0);
        Due.answer("count(2)", claims.count(2), 1);
        Due.sentence(3, "Reads the first bytes of the input buffer as a setup text and replaces all data by"
                + " it.");
        Texts.append(claims, "field 3 3;#");
        Due.answer("load(9)", claims.load(9), CornerClaims.SYNTAX_ERROR);
        Due.answer("count(0)", claims.count(0), 2);
        Texts.append(claims, "field 3 3;#");
        Due.answer("load(10)", claims.load(10), 0);
        Due.answer("count(0)", claims.count(0), 3);
        Texts.append(claims, "field 3 3;#");
        Due.answer("load(11)", claims.load(11), CornerClaims.SYNTAX_ERROR);
        Texts.append(claims, "field 3 3;");
        Due.answer("load(8)", claims.load(8), CornerClaims.SYNTAX_ERROR);
        Due.answer("errorOffset()", claims.errorOffset(), 8);
        Due.sentence(3, "The input buffer is empty afterwards, also if the text has an error.");
        Due.thrown("load(1) after an error", IllegalArgumentException.class, () -> claims.load(1));
        Texts.append(claims, "field 3 3;");
        claims.load(0);
        Due.thrown("load(1) after load(0)", IllegalArgumentException.class, () -> claims.load(1));
        Due.answer("append after load(0)", appendSpaces(claims), 20);
        claims.load(1);
        Due.answer("append after an error", Texts.append(claims, "field 3 3;"), 20);
        claims.load(10);
        Due.thrown("load(1) after a load", IllegalArgumentException.class, () -> claims.load(1));
        Due.answer("append after a load", appendSpaces(claims), 20);
        Due.sentence(3, "An empty text has a SYNTAX_ERROR.");
        Due.answer("load(0) of a buffer that is not empty", claims.load(0), CornerClaims.SYNTAX_ERROR);
        Due.answer("errorOffset()", claims.errorOffset(), 0);
        Due.answer("load(0) of an empty buffer", claims.load(0), CornerClaims.SYNTAX_ERROR);
        Due.answer("errorOffset()", claims.errorOffset(), 0);
    }

    private static void loadedData() {
        Due.sentence(3, "replaces all data by it.");
        String full = "field 12 9;stone 1 1 5;stone 8 8 6;polygon 2 0 0 4 0 0 4;polygon 3 6 6 9 6 9 9 6 9;"
                + "score 1000-area;";
        CornerClaims claims = Texts.loaded(full);
        claims.begin(1, 12, 0);
        Due.answer("load", Texts.load(claims, "field 5 4;"), 0);
        int[] empty = {5, 4, 0, 0, 0, 0};
        for (int what = 0; what < 6; what++) {
            Due.answer("count(" + what + ")", claims.count(what), empty[what]);
        }
        Due.answer("checksum()", claims.checksum(), 0);
        Draw.closed(claims, 0, 0, 0, 4, 0, 0, 4);
        Due.answer("score(0)", claims.score(0), 16);
        for (int k = 0; k <= 100; k++) {
            Texts.load(claims, "field 5 4;polygon 0 0 0 1 0 0 1;score 5*(" + k + "-area);");
            Due.answer("score(0) by the latest score", claims.score(0), 5 * k - 5);
        }
        Due.sentence(3, "An error leaves all other data unchanged.");
        CornerClaims kept = Texts.loaded(full);
        kept.begin(1, 12, 0);
        long sum = kept.checksum();
        String[] texts = {"field 5 4;stone 0 0 9;polygon 1 1 1 3 1 1 3;score 7;#", "field 5 4;field", "",
            "field 5 4;stone 0 0 0;", "field 5 4;polygon 0 1 1;", "field 5 4;score (((((1)))));", "field 31 4;"};
        int[] counts = {12, 9, 2, 3, 2, 2};
        for (String text : texts) {
            Due.answer("load of \"" + text + "\" fails", Texts.load(kept, text) < 0 ? 1 : 0, 1);
            for (int what = 0; what < 6; what++) {
                Due.answer("count(" + what + ")", kept.count(what), counts[what]);
            }
            Due.answer("checksum()", kept.checksum(), sum);
            Due.answer("score(0)", kept.score(0), 984);
            Due.answer("stone(1, 2)", kept.stone(1, 2), 6);
        }
        Due.sentence(3, "Returns the number of polygons; or the error code of the first error.");
        StringBuilder text = new StringBuilder("field 30 9;");
        for (int k = 0; k <= 6; k++) {
            Due.answer("load of " + k, Texts.load(claims, text.toString()), k);
            text.append("polygon 0 ").append(3 * k).append(" 0 ").append(3 * k + 1).append(" 0 ")
                    .append(3 * k).append(" 1;");
        }
    }

    private static void errorOffsets() {
        Due.sentence(4, "Returns the offset of the error found by the latest call of load that did not throw;"
                + " -1 if it found none or if there was no such call.");
        CornerClaims claims = new CornerClaims();
        Due.answer("errorOffset() at first", claims.errorOffset(), -1);
        Due.thrown("load(1)", IllegalArgumentException.class, () -> claims.load(1));
        Due.answer("errorOffset() after a load that threw only", claims.errorOffset(), -1);
        Texts.load(claims, "#");
        Due.answer("errorOffset() at the first byte", claims.errorOffset(), 0);
        Texts.load(claims, "field 9 9");
        Due.answer("errorOffset() at the end", claims.errorOffset(), 9);
        Due.thrown("load(1)", IllegalArgumentException.class, () -> claims.load(1));
        Due.answer("errorOffset() after a load that threw", claims.errorOffset(), 9);
        Texts.load(claims, "field 9 9;");
        Due.answer("errorOffset() after a good load", claims.errorOffset(), -1);
        Due.thrown("load(1)", IllegalArgumentException.class, () -> claims.load(1));
        Due.answer("errorOffset() after a load that threw", claims.errorOffset(), -1);
        Texts.load(claims, "field 9 9;" + " ".repeat(789) + "#");
        Due.answer("errorOffset() at the last byte", claims.errorOffset(), 799);
        claims.undo();
        Due.answer("errorOffset() after undo", claims.errorOffset(), 799);
    }

    private static void codes() {
        Due.sentence(3, "Returns the number of polygons; or the error code of the first error.");
        String six = "polygon 0 0 0 1 0 0 1;polygon 0 2 0 3 0 2 1;polygon 0 4 0 5 0 4 1;"
                + "polygon 0 0 2 1 2 0 3;polygon 0 2 2 3 2 2 3;polygon 0 4 2 5 2 4 3;";
        String[] texts = {"field 9 9", "field 9 31;", "field 9 9;polygon 0 0 0;",
            "field 9 9;" + six + "polygon", "field 9 9;score (((((1"};
        int[] due = {-2, -3, -4, -5, -6};
        int[] constants = {CornerClaims.SYNTAX_ERROR, CornerClaims.OUT_OF_RANGE, CornerClaims.REFUSED,
            CornerClaims.TOO_MANY, CornerClaims.TOO_DEEP};
        for (int k = 0; k < 5; k++) {
            Due.answer("load of \"" + texts[k] + "\"", Texts.load(new CornerClaims(), texts[k]), due[k]);
            Due.answer("the constant", constants[k], due[k]);
        }
    }

    private static void kindsOfCounts() {
        Due.sentence(5, "0 the width, 1 the height, 2 the number of stones, 3 the number of polygons, 4 the"
                + " number of closed polygons, 5 the number of stones that are claimed");
        CornerClaims claims = Texts.loaded("field 12 9;stone 1 1 5;stone 9 9 1;stone 12 9 1;stone 8 8 6;"
                + "polygon 2 0 0 4 0 0 4;polygon 3 6 6 9 6 6 9;polygon 0 11 0 12 0 12 1;");
        claims.begin(0, 6, 0);
        claims.begin(0, 6, 1);
        int[] due = {12, 9, 4, 5, 3, 1};
        for (int what = 0; what < 6; what++) {
            Due.answer("count(" + what + ")", claims.count(what), due[what]);
        }
        Due.thrown("count(6)", IllegalArgumentException.class, () -> claims.count(6));
        for (int far : FAR) {
            Due.thrown("count(" + far + ")", IllegalArgumentException.class, () -> claims.count(far));
        }
    }

    private static void kindsOfStones() {
        Due.sentence(6, "0 its x, 1 its y, 2 its value, 3 the polygon by which it is claimed (-1 for none)");
        CornerClaims claims = Texts.loaded("field 12 9;stone 2 1 5;stone 12 9 99;polygon 2 9 1 11 1 11 3;"
                + "polygon 2 0 0 5 0 0 5;");
        int[][] due = {{2, 1, 5, 1}, {12, 9, 99, -1}};
        for (int stone = 0; stone < 2; stone++) {
            for (int what = 0; what < 4; what++) {
                Due.answer("stone(" + stone + ", " + what + ")", claims.stone(stone, what), due[stone][what]);
            }
        }
        Due.thrown("stone(0, 4)", IllegalArgumentException.class, () -> claims.stone(0, 4));
        for (int far : FAR) {
            Due.thrown("stone(0, " + far + ")", IllegalArgumentException.class, () -> claims.stone(0, far));
        }
    }

    private static void kindsOfPolygons() {
        Due.sentence(7, "0 its owner, 1 the number of its corners, 2 1 if it is closed, 0 if it is open");
        CornerClaims claims = Texts.loaded("field 12 9;polygon 3 0 0 5 0 5 5 0 5;");
        claims.begin(2, 12, 9);
        int[][] due = {{3, 4, 1}, {2, 1, 0}};
        for (int polygon = 0; polygon < 2; polygon++) {
            for (int what = 0; what < 3; what++) {
                Due.answer("polygon(" + polygon + ", " + what + ")", claims.polygon(polygon, what),
                        due[polygon][what]);
            }
        }
        Due.thrown("polygon(0, 3)", IllegalArgumentException.class, () -> claims.polygon(0, 3));
        for (int far : FAR) {
            Due.thrown("polygon(0, " + far + ")", IllegalArgumentException.class,
                    () -> claims.polygon(0, far));
        }
    }

    private static void corners() {
        Due.sentence(8, "Returns 100 * x + y of this corner.");
        CornerClaims claims = Texts.loaded("field 30 30;polygon 0 0 0 30 0 30 30 0 30;");
        int[] due = {0, 3000, 3030, 30};
        for (int place = 0; place < 4; place++) {
            Due.answer("cornerAt(0, " + place + ")", claims.cornerAt(0, place), due[place]);
        }
        Due.sentence(8, "if there is no such corner");
        Due.thrown("cornerAt(0, 4)", NoSuchElementException.class, () -> claims.cornerAt(0, 4));
        for (int far : FAR) {
            Due.thrown("cornerAt(0, " + far + ")", NoSuchElementException.class,
                    () -> claims.cornerAt(0, far));
        }
        Due.sentence(9, "Returns the reason for which the polygon refuses a corner there; 0 if it does not.");
        claims.begin(0, 9, 9);
        Due.answer("reason(1, 9, 10)", claims.reason(1, 9, 10), 0);
        Due.answer("reason(1, 9, 10) again", claims.reason(1, 9, 10), 0);
        Due.answer("polygon(1, 1), which reason leaves", claims.polygon(1, 1), 1);
        Due.answer("reason(0, 9, 10)", claims.reason(0, 9, 10), 1);
        Due.answer("reason is no change: undo()", claims.undo(), 1);
    }

    private static void begun() {
        Due.sentence(19, "Begins a new, open polygon behind the others.");
        CornerClaims claims = Texts.loaded("field 12 9;stone 8 8 1;polygon 3 0 0 5 0 0 5;");
        for (int k = 1; k < 6; k++) {
            Due.answer("begin", claims.begin(k % 4, 5 + k, k), k);
            Due.answer("polygon(" + k + ", 0)", claims.polygon(k, 0), k % 4);
            Due.answer("polygon(" + k + ", 1)", claims.polygon(k, 1), 1);
            Due.answer("polygon(" + k + ", 2)", claims.polygon(k, 2), 0);
            Due.answer("cornerAt(" + k + ", 0)", claims.cornerAt(k, 0), 500 + 101 * k);
        }
        Due.answer("cornerAt(0, 1)", claims.cornerAt(0, 1), 500);
        claims.remove(5);
        Due.sentence(19, "or -3 if the point is a stone or a corner, or is on a side (no polygon is begun"
                + " then).");
        int[][] taken = {{8, 8}, {0, 0}, {5, 0}, {0, 5}, {6, 1}, {9, 4}, {1, 0}, {4, 0}, {4, 1}, {1, 4},
            {0, 1}, {0, 4}};
        for (int[] point : taken) {
            Due.answer("begin(0, " + point[0] + ", " + point[1] + ")", claims.begin(0, point[0], point[1]),
                    -3);
            Due.answer("count(3)", claims.count(3), 5);
        }
        int[][] free = {{6, 0}, {0, 6}, {1, 1}, {3, 1}, {5, 1}, {8, 7}};
        for (int[] point : free) {
            Due.answer("begin(0, " + point[0] + ", " + point[1] + ")", claims.begin(0, point[0], point[1]), 5);
            claims.undo();
        }
        Due.sentence(19, "if there are 6 polygons");
        Due.answer("begin of the 6th", claims.begin(0, 12, 9), 5);
        Due.thrown("begin of a 7th", IllegalStateException.class, () -> claims.begin(0, 12, 8));
        Due.thrown("begin of a 7th on a stone", IllegalStateException.class, () -> claims.begin(0, 8, 8));
        Due.sentence(20, "Adds a corner to an open polygon, behind the others.");
        Due.answer("corner", claims.corner(5, 11, 9), 2);
        Due.answer("corner", claims.corner(5, 12, 8), 3);
        Due.answer("cornerAt(5, 0)", claims.cornerAt(5, 0), 1209);
        Due.answer("cornerAt(5, 1)", claims.cornerAt(5, 1), 1109);
        Due.answer("cornerAt(5, 2)", claims.cornerAt(5, 2), 1208);
    }

    private static void closed() {
        Due.sentence(21, "Returns the number of stones that it claims then; or minus the reason, if this is"
                + " refused.");
        StringBuilder text = new StringBuilder("field 30 4;");
        for (int k = 1; k <= 20; k++) {
            text.append("stone ").append(k).append(" 2 1;");
        }
        CornerClaims claims = Texts.loaded(text + "polygon 0 2 1 7 1 6 3 3 3;");
        Due.answer("count(5)", claims.count(5), 4);
        Draw.open(claims, 0, 0, 0, 30, 0, 30, 4, 0, 4);
        Due.answer("close around 20, of which 4 are claimed within", claims.close(1), 16);
        Due.answer("count(5)", claims.count(5), 20);
        claims.remove(0);
        claims.remove(0);
        Draw.open(claims, 0, 0, 0, 30, 0, 30, 4, 0, 4);
        Due.answer("close around 20", claims.close(0), 20);
        Draw.open(claims, 0, 22, 1, 24, 1, 24, 3);
        Due.answer("close around none", claims.close(1), 0);
        Due.answer("close again", claims.close(1), -1);
    }

    private static void sides() {
        Due.sentence(22, "if side is negative or not less than the number of corners of the polygon");
        CornerClaims claims = Texts.loaded("field 9 9;polygon 0 1 1 7 1 7 7 1 7;");
        claims.begin(0, 9, 9);
        Due.thrown("bend(0, 4, 8, 4)", NoSuchElementException.class, () -> claims.bend(0, 4, 8, 4));
        Due.thrown("bend(1, 1, 8, 4)", NoSuchElementException.class, () -> claims.bend(1, 1, 8, 4));
        for (int far : FAR) {
            Due.thrown("bend(0, " + far + ", 8, 4)", NoSuchElementException.class,
                    () -> claims.bend(0, far, 8, 4));
        }
        Due.answer("bend(1, 0, 8, 4) of an open one", claims.bend(1, 0, 8, 4), -1);
        Due.sentence(22, "Returns the area of the polygon then (twice as great); or minus the reason, if this"
                + " is refused.");
        Due.answer("bend(0, 3, 0, 4)", claims.bend(0, 3, 0, 4), 78);
        Due.answer("area(0)", claims.area(0), 78);
        Due.answer("cornerAt(0, 4)", claims.cornerAt(0, 4), 4);
        Due.answer("bend(0, 4, 1, 3)", claims.bend(0, 4, 1, 3), 76);
        Due.answer("cornerAt(0, 5)", claims.cornerAt(0, 5), 103);
        Due.answer("bend(0, 5, 1, 2)", claims.bend(0, 5, 1, 2), 76);
        Due.answer("bend(0, 0, 6, 6)", claims.bend(0, 0, 6, 6), 46);
        Due.answer("bend(0, 0, 6, 6) again", claims.bend(0, 0, 6, 6), -3);
    }

    private static void dueCorners(CornerClaims claims, int... corners) {
        Due.answer("polygon(0, 1)", claims.polygon(0, 1), corners.length);
        for (int k = 0; k < corners.length; k++) {
            Due.answer("cornerAt(0, " + k + ")", claims.cornerAt(0, k), corners[k]);
        }
    }

    private static void takenOut() {
        Due.sentence(23, "the places of the corners behind it become smaller by 1.");
        String five = "field 9 9;polygon 0 1 1 7 1 8 4 7 7 1 7;";
        int[][] left = {{701, 804, 707, 107}, {101, 804, 707, 107}, {101, 701, 707, 107},
            {101, 701, 804, 107}, {101, 701, 804, 707}};
        int[] areas = {42, 60, 72, 60, 42};
        for (int place = 0; place < 5; place++) {
            CornerClaims claims = Texts.loaded(five);
            Due.answer("takeOut(0, " + place + ")", claims.takeOut(0, place), areas[place]);
            dueCorners(claims, left[place]);
            Due.answer("area(0)", claims.area(0), areas[place]);
            Due.answer("polygon(0, 2)", claims.polygon(0, 2), 1);
        }
        Due.sentence(23, "if there is no such corner");
        CornerClaims claims = Texts.loaded(five);
        Due.thrown("takeOut(0, 5)", NoSuchElementException.class, () -> claims.takeOut(0, 5));
        for (int far : FAR) {
            Due.thrown("takeOut(0, " + far + ")", NoSuchElementException.class,
                    () -> claims.takeOut(0, far));
        }
        claims.takeOut(0, 4);
        Due.thrown("takeOut(0, 4) then", NoSuchElementException.class, () -> claims.takeOut(0, 4));
    }

    private static void removed() {
        Due.sentence(24, "the indexes of those behind it become smaller by 1.");
        StringBuilder text = new StringBuilder("field 30 9;");
        for (int k = 0; k < 6; k++) {
            text.append("polygon ").append(k % 4).append(' ').append(5 * k).append(" 0 ")
                    .append(5 * k + 4).append(" 0 ").append(5 * k).append(" 4;stone ").append(5 * k + 1)
                    .append(" 1 1;");
        }
        for (int polygon = 0; polygon < 6; polygon++) {
            CornerClaims claims = Texts.loaded(text.toString());
            Due.answer("remove(" + polygon + ")", claims.remove(polygon), 5);
            Due.answer("count(3)", claims.count(3), 5);
            for (int k = 0; k < 5; k++) {
                int old = k < polygon ? k : k + 1;
                Due.answer("polygon(" + k + ", 0)", claims.polygon(k, 0), old % 4);
                Due.answer("cornerAt(" + k + ", 0)", claims.cornerAt(k, 0), 500 * old);
                Due.answer("stone(" + old + ", 3)", claims.stone(old, 3), k);
            }
            Due.answer("stone(" + polygon + ", 3)", claims.stone(polygon, 3), -1);
            Due.thrown("polygon(5, 0)", IndexOutOfBoundsException.class, () -> claims.polygon(5, 0));
        }
        Due.sentence(24, "Returns the number of stones that are claimed then.");
        CornerClaims claims = Texts.loaded(text.toString());
        claims.remove(2);
        claims.begin(0, 12, 2);
        Due.answer("remove of an open one", claims.remove(5), 5);
        for (int k = 4; k >= 0; k--) {
            Due.answer("remove of the first one", claims.remove(0), k);
        }
        claims = Texts.loaded("field 9 9;stone 4 4 1;stone 1 1 1;polygon 0 0 0 9 0 9 9 0 9;"
                + "polygon 0 3 3 6 3 6 6 3 6;");
        Due.answer("remove of one within", claims.remove(1), 2);
        claims.undo();
        Due.answer("remove of the one around", claims.remove(0), 1);
    }

    private static void undone() {
        Due.sentence(25, "The input buffer and the error offset are not affected.");
        CornerClaims claims = Texts.loaded("field 9 9;");
        Texts.load(claims, "field 9 10;");
        Texts.load(claims, "field 9 31;");
        Texts.append(claims, "field 9 11;");
        Due.answer("undo()", claims.undo(), 1);
        Due.answer("errorOffset()", claims.errorOffset(), 8);
        Due.answer("append", appendSpaces(claims), 40);
        Due.answer("load(11)", claims.load(11), 0);
        Due.answer("count(1)", claims.count(1), 11);
        Due.answer("errorOffset()", claims.errorOffset(), -1);
        claims.undo();
        Due.answer("errorOffset()", claims.errorOffset(), -1);
        Due.answer("count(1)", claims.count(1), 9);
        Due.thrown("load(1): the buffer is still empty", IllegalArgumentException.class,
                () -> claims.load(1));
        Due.sentence(25, "-1 if there was none to undo, and nothing changes then.");
        CornerClaims other = new CornerClaims();
        Due.answer("undo() of nothing", other.undo(), -1);
        Texts.load(other, "field 9 9;stone 1 1 5;polygon 3 0 0 4 0 0 4;score 5;");
        for (int k = 0; k < 10; k++) {
            other.takeOut(0, 0);
        }
        for (int k = 7; k >= 0; k--) {
            Due.answer("undo()", other.undo(), k);
        }
        long sum = other.checksum();
        for (int k = 0; k < 3; k++) {
            Due.answer("undo() of nothing", other.undo(), -1);
            Due.answer("checksum()", other.checksum(), sum);
            Due.answer("count(0)", other.count(0), 9);
            Due.answer("score(0)", other.score(0), 5);
        }
        other.begin(0, 9, 9);
        Due.answer("undo() after them", other.undo(), 0);
        Due.answer("checksum()", other.checksum(), sum);
    }

    private static void checksums() {
        Due.sentence(26, "It starts at 0;");
        Due.answer("checksum() of a new object", new CornerClaims().checksum(), 0);
        Due.answer("checksum() without polygons", Texts.loaded("field 9 9;stone 1 1 1;").checksum(), -923521);
        Due.sentence(26, "each number n in the following order replaces it by 31 * checksum + n,"
                + " wrapping around on overflow of a long:");
        // 6 polygons with 12 corners each, and 20 stones; with scores of -99999 each.
        StringBuilder text = new StringBuilder("field30 30;");
        List<Integer> numbers = new ArrayList<>();
        for (int p = 0; p < 6; p++) {
            text.append("polygon").append(p % 3);
            numbers.add(p % 3);
            numbers.add(1);
            for (int k = 0; k < 12; k++) {
                int x = k == 11 ? 10 : 2 * k;
                int y = 5 * p + (k == 11 ? 4 : 1 - k % 2);
                text.append(' ').append(x).append(' ').append(y);
                numbers.add(100 * x + y);
            }
            text.append(';');
        }
        for (int k = 0; k < 20; k++) {
            text.append("stone").append(k < 6 ? "10 " + (5 * k + 2) : "30 " + k).append(" 1;");
            numbers.add(k < 6 ? k : -1);
        }
        text.append("score0-9999*11;");
        numbers.addAll(List.of(-199998, -199998, -199998, 0));
        BigInteger sum = BigInteger.ZERO;
        for (int number : numbers) {
            sum = sum.multiply(BigInteger.valueOf(31)).add(BigInteger.valueOf(number));
        }
        Due.answer("checksum() of 108 numbers", Texts.loaded(text.toString()).checksum(), sum.longValue());
        Due.answer("the numbers", numbers.size(), 108);
        CornerClaims claims = Texts.loaded("field 9 9;");
        claims.begin(3, 0, 9);
        // 3, 0, 9 and four zeros.
        Due.answer("checksum() of an open one", claims.checksum(), (3 * 31 * 31 + 9) * 923521L);
    }
}

import java.nio.charset.StandardCharsets;
import java.util.NoSuchElementException;
import java.util.Random;

/** Long runs of calls, the same ones in every run of the test, on the program and on the Reference. */
final class ReferenceTest {
    private static final int RUNS = 2000;
    private static final int CALLS = 500;
    private static final int TEXT_RUNS = 1200;

    private final Random random;
    private final CornerClaims claims = new CornerClaims();
    private final Reference reference = new Reference();
    private final String name;

    private ReferenceTest(String name, long seed) {
        this.name = name;
        this.random = new Random(seed);
    }

    public static void main(String[] args) {
        for (int run = 0; run < RUNS; run++) {
            new ReferenceTest("run " + run, run).play();
        }
        for (int run = 0; run < TEXT_RUNS; run++) {
            new ReferenceTest("texts " + run, 1000000 + run).readTexts();
        }
        Due.end();
    }

    /** The answer, or the number that the Reference uses for this very class of exception. */
    private static long told(Due.Call call) {
        try {
            return call.answer();
        } catch (RuntimeException e) {
            return e.getClass() == IllegalArgumentException.class ? Reference.ILLEGAL_ARGUMENT
                    : e.getClass() == IndexOutOfBoundsException.class ? Reference.INDEX
                    : e.getClass() == NoSuchElementException.class ? Reference.NO_ELEMENT
                    : e.getClass() == IllegalStateException.class ? Reference.ILLEGAL_STATE
                    : Long.MIN_VALUE;
        }
    }

    private void same(String call, Due.Call made, long due) {
        Due.answer(name + ": " + call, told(made), due);
    }

    private void play() {
        if (random.nextInt(8) > 0) {
            load(new RandomText(random).text(false));
        }
        for (int call = 0; call < CALLS; call += 4) {
            change();
            ask();
            ask();
            same("checksum", claims::checksum, reference.checksum());
        }
    }

    private void readTexts() {
        for (int k = 0; k < 10; k++) {
            load(new RandomText(random).text(true));
            same("checksum", claims::checksum, reference.checksum());
            for (int p = 0; p < 6; p++) {
                int polygon = p;
                same("score " + p, () -> claims.score(polygon), reference.told("score", p));
            }
        }
    }

    private void load(String text) {
        byte[] bytes = text.getBytes(StandardCharsets.ISO_8859_1);
        for (int at = 0; at < bytes.length; at += 20) {
            int w0 = Texts.word(bytes, at);
            int w1 = Texts.word(bytes, at + 4);
            int w2 = Texts.word(bytes, at + 8);
            int w3 = Texts.word(bytes, at + 12);
            int w4 = Texts.word(bytes, at + 16);
            same("append", () -> claims.append(w0, w1, w2, w3, w4), reference.append(w0, w1, w2, w3, w4));
        }
        same("load of \"" + text + "\"", () -> claims.load(bytes.length), reference.load(bytes.length));
        same("errorOffset after \"" + text + "\"", claims::errorOffset, reference.errorOffset());
        same("load(1)", () -> claims.load(1), reference.load(1));
    }

    private int extent(int what) {
        return (int) reference.count(what);
    }

    private int anyPolygon() {
        int polygons = extent(3);
        return random.nextInt(12) == 0 || polygons == 0 ? random.nextInt(9) - 1
                : random.nextInt(polygons);
    }

    private int anyPlace(int polygon) {
        long size = reference.polygon(polygon, 1);
        return random.nextInt(12) == 0 || size < 1 ? random.nextInt(15) - 1 : random.nextInt((int) size);
    }

    private int anyX() {
        return random.nextInt(30) == 0 ? -1 : random.nextInt(extent(0) + (random.nextInt(30) == 0 ? 2 : 1));
    }

    private int anyY() {
        return random.nextInt(30) == 0 ? -1 : random.nextInt(extent(1) + (random.nextInt(30) == 0 ? 2 : 1));
    }

    /** Mostly near to the last corner, so that polygons grow. */
    private int[] nextPoint(int polygon) {
        long size = reference.polygon(polygon, 1);
        boolean closed = reference.polygon(polygon, 2) == 1;
        long last = size > 0
                ? reference.cornerAt(polygon, closed ? random.nextInt((int) size) : (int) size - 1) : -1;
        if (last < 0 || random.nextInt(3) == 0) {
            return new int[] {anyX(), anyY()};
        }
        int reach = 1 + random.nextInt(4);
        return new int[] {(int) last / 100 + random.nextInt(2 * reach + 1) - reach,
            (int) last % 100 + random.nextInt(2 * reach + 1) - reach};
    }

    private void change() {
        int p = anyPolygon();
        boolean closed = reference.polygon(p, 2) == 1;
        // Mostly what the polygon's state allows.
        int kind = random.nextInt(8) == 0 ? random.nextInt(40)
                : closed ? 24 + random.nextInt(16)
                : random.nextInt(3) > 0 || reference.polygon(p, 1) < 3 ? 4 + random.nextInt(14)
                : 18 + random.nextInt(6);
        if (random.nextInt(12) == 0) {
            kind = extent(3) < 6 ? 0 : 36;
        }
        if (kind < 5) {
            int player = random.nextInt(20) == 0 ? 4 * random.nextInt(3) - 4 : random.nextInt(4);
            int x = anyX();
            int y = anyY();
            same("begin", () -> claims.begin(player, x, y), reference.begin(player, x, y));
        } else if (kind < 18) {
            int[] to = nextPoint(p);
            same("corner", () -> claims.corner(p, to[0], to[1]), reference.corner(p, to[0], to[1]));
        } else if (kind < 24) {
            same("close", () -> claims.close(p), reference.close(p));
        } else if (kind < 32) {
            int side = anyPlace(p);
            int[] to = nextPoint(p);
            same("bend", () -> claims.bend(p, side, to[0], to[1]),
                    reference.bend(p, side, to[0], to[1]));
        } else if (kind < 36) {
            int place = anyPlace(p);
            same("takeOut", () -> claims.takeOut(p, place), reference.takeOut(p, place));
        } else if (kind < 37) {
            same("remove", () -> claims.remove(p), reference.remove(p));
        } else {
            for (int k = random.nextInt(random.nextInt(4) == 0 ? 11 : 3); k > 0; k--) {
                same("undo", claims::undo, reference.undo());
            }
        }
    }

    private void ask() {
        int p = anyPolygon();
        int x = anyX();
        int y = anyY();
        int what = random.nextInt(8) - 1;
        int place = random.nextInt(22) - 1;
        switch (random.nextInt(14)) {
            case 0:
                same("count " + what, () -> claims.count(what), reference.count(what));
                break;
            case 1:
                same("stone", () -> claims.stone(place, what), reference.stone(place, what));
                break;
            case 2:
                same("polygon", () -> claims.polygon(p, what), reference.polygon(p, what));
                break;
            case 3:
                same("cornerAt", () -> claims.cornerAt(p, place), reference.cornerAt(p, place));
                break;
            case 4:
                same("reason", () -> claims.reason(p, x, y), reference.reason(p, x, y));
                break;
            case 5:
                same("points", () -> claims.points(what), reference.points(what));
                break;
            case 6:
                same("leader", claims::leader, reference.leader());
                break;
            case 7:
                same("where", () -> claims.where(p, x, y), reference.where(p, x, y));
                break;
            default:
                askOfAreas(p);
                break;
        }
    }

    private void askOfAreas(int p) {
        switch (random.nextInt(6)) {
            case 0:
                same("area", () -> claims.area(p), reference.told("area", p));
                break;
            case 1:
                same("border", () -> claims.border(p), reference.told("border", p));
                break;
            case 2:
                same("inner", () -> claims.inner(p), reference.told("inner", p));
                break;
            case 3:
                same("dents", () -> claims.dents(p), reference.told("dents", p));
                break;
            case 4:
                same("parent", () -> claims.parent(p), reference.told("parent", p));
                break;
            default:
                same("score", () -> claims.score(p), reference.told("score", p));
                break;
        }
    }
}

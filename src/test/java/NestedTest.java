import java.nio.charset.StandardCharsets;
import java.util.Random;

/**
 * Fields with many stones and polygons one in another, drawn by calls, then bent and cut; and every
 * line on small fields beside every side. What is due is what the Reference answers.
 */
final class NestedTest {
    private static final int RUNS = 400;
    private static final int CALLS = 50;
    private static final String[] SCORES = {
        "", "score stones*100+inner*dents-area/corners;", "score inner;", "score stones-area*9999/7;",
        "score dents*1000+stones;", "score (area-stones)/(dents-1)+corners;",
    };

    private final Random random;
    private final String name;
    private final CornerClaims claims = new CornerClaims();
    private final Reference reference = new Reference();
    private int width = 0;
    private int height = 0;

    private NestedTest(int run) {
        random = new Random(90000 + run);
        name = "run " + run + ": ";
    }

    public static void main(String[] args) {
        for (int width = 2; width <= 4; width++) {
            for (int height = 2; height <= 3; height++) {
                everyLine(width, height);
            }
        }
        for (int run = 0; run < RUNS; run++) {
            new NestedTest(run).play();
        }
        Due.end();
    }

    private static void everyLine(int width, int height) {
        int points = (width + 1) * (height + 1);
        for (int c = 0; c < points; c++) {
            for (int d = 0; d < points; d++) {
                if (c != d) {
                    linesBeside(width, height, pointOf(c, height), pointOf(d, height));
                }
            }
        }
    }

    private static int[] pointOf(int number, int height) {
        return new int[] {number / (height + 1), number % (height + 1)};
    }

    /** Every line beside the side from C to D: from a corner of its own, or on from D. */
    private static void linesBeside(int width, int height, int[] c, int[] d) {
        String name = width + " by " + height + ", side " + c[0] + " " + c[1] + " " + d[0] + " " + d[1];
        CornerClaims claims = Texts.loaded("field " + width + " " + height + ";");
        Reference reference = new Reference();
        load(claims, reference, "field " + width + " " + height + ";");
        same(name, () -> claims.begin(0, c[0], c[1]), reference.begin(0, c[0], c[1]));
        same(name, () -> claims.corner(0, d[0], d[1]), reference.corner(0, d[0], d[1]));
        for (int number = 0; number < (width + 1) * (height + 1); number++) {
            int[] a = pointOf(number, height);
            long begun = reference.begin(1, a[0], a[1]);
            same(name + ", begin", () -> claims.begin(1, a[0], a[1]), begun);
            int polygon = begun < 0 ? 0 : 1;
            for (int x = 0; x <= width; x++) {
                for (int y = 0; y <= height; y++) {
                    int toX = x;
                    int toY = y;
                    same(name + ", reason", () -> claims.reason(polygon, toX, toY),
                            reference.reason(polygon, x, y));
                }
            }
            if (begun >= 0) {
                same(name + ", remove", () -> claims.remove(1), reference.remove(1));
            }
        }
    }

    private static void same(String call, Due.Call made, long due) {
        Reference.compare(call, made, due);
    }

    private static void load(CornerClaims claims, Reference reference, String text) {
        byte[] bytes = text.getBytes(StandardCharsets.ISO_8859_1);
        for (int at = 0; at < bytes.length; at += 20) {
            reference.append(Texts.word(bytes, at), Texts.word(bytes, at + 4), Texts.word(bytes, at + 8),
                    Texts.word(bytes, at + 12), Texts.word(bytes, at + 16));
        }
        same("load of " + text, () -> Texts.load(claims, text), reference.load(bytes.length));
    }

    private void play() {
        boolean isLarge = random.nextInt(3) > 0;
        width = isLarge ? 20 + random.nextInt(11) : 2 + random.nextInt(29);
        height = isLarge ? 20 + random.nextInt(11) : 2 + random.nextInt(29);
        load(claims, reference, setup());
        for (int ring = 1; ring <= 6; ring++) {
            draw(ring);
        }
        for (int call = 0; call < CALLS && reference.count(3) > 0; call++) {
            change();
            if (call % 10 == 0) {
                askAll();
            }
        }
    }

    private String setup() {
        StringBuilder text = new StringBuilder("field " + width + " " + height + ";");
        text.append(SCORES[random.nextInt(SCORES.length)]);
        boolean[][] taken = new boolean[width + 1][height + 1];
        for (int k = random.nextInt(21); k > 0; k--) {
            int x = random.nextInt(width + 1);
            int y = random.nextInt(height + 1);
            if (!taken[x][y]) {
                taken[x][y] = true;
                text.append("stone" + x + " " + y + " " + (1 + random.nextInt(99)) + ";");
            }
        }
        return text.toString();
    }

    /** Corners round the middle; the rings grow, and mostly lie one in another. */
    private void draw(int ring) {
        int player = random.nextInt(4);
        int corners = 3 + random.nextInt(8);
        double from = 6 * random.nextDouble();
        double turn = (random.nextBoolean() ? 2 : -2) * Math.PI / corners;
        long begun = -1;
        for (int k = 0; k < corners; k++) {
            double reach = ring / 12.0 * (0.7 + 0.3 * random.nextDouble());
            int x = clamped((int) Math.round(width / 2.0 + Math.cos(from + k * turn) * reach * width), width);
            int y = clamped((int) Math.round(height / 2.0 + Math.sin(from + k * turn) * reach * height),
                    height);
            int polygon = (int) begun;
            if (begun < 0) {
                begun = reference.begin(player, x, y);
                same(name + "begin", () -> claims.begin(player, x, y), begun);
            } else {
                same(name + "corner", () -> claims.corner(polygon, x, y), reference.corner(polygon, x, y));
            }
        }
        int polygon = (int) begun;
        long closed = reference.close(polygon);
        same(name + "close", () -> claims.close(polygon), closed);
        if (closed < 0 && begun >= 0 && random.nextInt(3) > 0) {
            same(name + "remove", () -> claims.remove(polygon), reference.remove(polygon));
        }
    }

    private static int clamped(int value, int most) {
        return Math.max(0, Math.min(most, value));
    }

    private void change() {
        int p = random.nextInt((int) reference.count(3));
        int place = random.nextInt((int) reference.polygon(p, 1));
        int corner = (int) reference.cornerAt(p, place);
        int x = clamped(corner / 100 + random.nextInt(9) - 4, width);
        int y = clamped(corner % 100 + random.nextInt(9) - 4, height);
        switch (random.nextInt(16)) {
            case 0:
                same(name + "remove", () -> claims.remove(p), reference.remove(p));
                break;
            case 1:
            case 2:
                same(name + "undo", claims::undo, reference.undo());
                break;
            case 3:
            case 4:
                same(name + "corner", () -> claims.corner(p, x, y), reference.corner(p, x, y));
                break;
            case 5:
            case 6:
                same(name + "where", () -> claims.where(p, x, y), reference.where(p, x, y));
                break;
            case 7:
            case 8:
            case 9:
                same(name + "takeOut", () -> claims.takeOut(p, place), reference.takeOut(p, place));
                break;
            default:
                same(name + "bend", () -> claims.bend(p, place, x, y), reference.bend(p, place, x, y));
                break;
        }
    }

    private void askAll() {
        same(name + "checksum", claims::checksum, reference.checksum());
        same(name + "leader", claims::leader, reference.leader());
        same(name + "count(5)", () -> claims.count(5), reference.count(5));
        for (int k = 0; k < reference.count(3); k++) {
            int p = k;
            same(name + "area", () -> claims.area(p), reference.told("area", p));
            same(name + "border", () -> claims.border(p), reference.told("border", p));
            same(name + "inner", () -> claims.inner(p), reference.told("inner", p));
            same(name + "dents", () -> claims.dents(p), reference.told("dents", p));
            same(name + "parent", () -> claims.parent(p), reference.told("parent", p));
            same(name + "score", () -> claims.score(p), reference.told("score", p));
        }
    }
}

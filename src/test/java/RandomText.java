import java.util.ArrayList;
import java.util.List;
import java.util.Random;

/** Makes setup texts; some with a fault in them. */
final class RandomText {
    private static final String[] WORDS = {"area", "stones", "corners", "dents", "inner"};
    private static final String FAULTS = "0123456789 ;;+-*/()#ax\u00ff\n";

    private final Random random;
    private int width;
    private int height;

    RandomText(Random random) {
        this.random = random;
    }

    String text(boolean mayHaveFaults) {
        int most = random.nextInt(3) == 0 ? 29 : 9;
        width = 2 + random.nextInt(most);
        height = 2 + random.nextInt(most);
        StringBuilder text = new StringBuilder("field" + gap() + width + " " + height + gap() + ";");
        int statements = random.nextInt(6) * (1 + random.nextInt(3));
        if (mayHaveFaults && random.nextInt(15) == 0) {
            statements = 40;
        }
        boolean scored = false;
        for (int k = 0; k < statements; k++) {
            String statement = statement(scored && !(mayHaveFaults && random.nextInt(10) == 0));
            scored |= statement.startsWith("score");
            String longer = text + gap() + statement + gap() + ";" + gap();
            // Without faults a text must be without errors, so what is refused is left out.
            if (longer.length() <= 760 && (mayHaveFaults && random.nextInt(9) == 0 || isGood(longer))) {
                text = new StringBuilder(longer);
            }
        }
        for (int k = mayHaveFaults ? random.nextInt(3) : 0; k > 0; k--) {
            fault(text);
        }
        return text.toString();
    }

    private static boolean isGood(String text) {
        ReferenceText read = new ReferenceText(text);
        read.read();
        return read.error == 0;
    }

    private String gap() {
        return random.nextInt(4) == 0 ? "  ".substring(random.nextInt(2)) : "";
    }

    private void fault(StringBuilder text) {
        int at = random.nextInt(text.length());
        char sign = FAULTS.charAt(random.nextInt(FAULTS.length()));
        switch (random.nextInt(5)) {
            case 0:
                text.deleteCharAt(at);
                break;
            case 1:
                text.insert(at, sign);
                break;
            case 2:
                text.setCharAt(at, sign);
                break;
            case 3:
                text.insert(at, "000");
                break;
            default:
                text.setLength(Math.max(1, text.length() - random.nextInt(8)));
                break;
        }
    }

    private String statement(boolean scored) {
        int kind = random.nextInt(scored ? 10 : 11);
        if (kind == 10) {
            return "score" + gap() + (random.nextBoolean() ? " " : "(1)*") + sum(0);
        }
        if (kind < 4) {
            return "stone" + gap() + random.nextInt(width + 1) + " " + random.nextInt(height + 1) + " "
                    + (1 + random.nextInt(random.nextInt(9) == 0 ? 110 : 99));
        }
        return "polygon" + gap() + random.nextInt(4) + (kind < 8 ? box() : kind < 9 ? star() : way());
    }

    /** Boxes often lie in one another. */
    private String box() {
        int margin = random.nextInt((Math.min(width, height) + 1) / 2);
        int left = margin;
        int right = width - margin;
        int low = margin + random.nextInt(2);
        int high = Math.max(low + 1, height - margin);
        String one = " " + right + " " + low;
        String other = " " + left + " " + high;
        return " " + left + " " + low + (random.nextBoolean() ? one : other) + " " + right + " " + high
                + (random.nextInt(5) == 0 ? "" : random.nextBoolean() ? one : other);
    }

    /** Corners around a point, in the order of their directions. */
    private String star() {
        List<double[]> corners = new ArrayList<>();
        for (int k = 3 + random.nextInt(12); k > 0; k--) {
            int x = random.nextInt(width + 1);
            int y = random.nextInt(height + 1);
            corners.add(new double[] {x, y, Math.atan2(y - height / 2.0, x - width / 2.0)});
        }
        int sense = random.nextBoolean() ? 1 : -1;
        corners.sort((a, b) -> sense * Double.compare(a[2], b[2]));
        StringBuilder text = new StringBuilder();
        for (double[] corner : corners) {
            text.append(" ").append((int) corner[0]).append(" ").append((int) corner[1]);
        }
        return text.toString();
    }

    private String way() {
        StringBuilder text = new StringBuilder();
        int x = random.nextInt(width + 1);
        int y = random.nextInt(height + 1);
        for (int k = 3 + random.nextInt(random.nextInt(9) == 0 ? 11 : 3); k > 0; k--) {
            text.append(" ").append(x).append(" ").append(y);
            int reach = random.nextInt(3) == 0 ? 30 : 3;
            x = Math.max(0, Math.min(width, x + random.nextInt(2 * reach + 1) - reach));
            y = Math.max(0, Math.min(height, y + random.nextInt(2 * reach + 1) - reach));
        }
        return text.toString();
    }

    private String sum(int depth) {
        StringBuilder text = new StringBuilder(factor(depth));
        for (int k = random.nextInt(4); k > 0; k--) {
            text.append(gap()).append("+-*/".charAt(random.nextInt(4))).append(gap()).append(factor(depth));
        }
        return text.toString();
    }

    private String factor(int depth) {
        int kind = random.nextInt(9);
        if (kind < 3 && depth < 5) {
            return "(" + gap() + sum(depth + 1) + ")";
        }
        if (kind < 6) {
            return WORDS[random.nextInt(WORDS.length)];
        }
        return "" + (kind < 8 ? random.nextInt(20) : random.nextInt(10500));
    }
}

/** Promise 12: border. */
final class Promise12Test {
    public static void main(String[] args) {
        Figures.due("border", 2, CornerClaims::border);
        Due.end();
    }
}

/** Promise 11: area. */
final class Promise11Test {
    public static void main(String[] args) {
        Figures.due("area", 1, CornerClaims::area);
        Due.end();
    }
}

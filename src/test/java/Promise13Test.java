/** Promise 13: inner. */
final class Promise13Test {
    public static void main(String[] args) {
        Figures.due("inner", 3, CornerClaims::inner);
        Due.end();
    }
}

/** Promise 14: dents. */
final class Promise14Test {
    public static void main(String[] args) {
        Figures.due("dents", 4, CornerClaims::dents);
        Due.end();
    }
}

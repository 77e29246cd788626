/** Draws polygons by begin, corner and close; each of these calls must be accepted. */
final class Draw {
    private Draw() {
    }

    /** Answers the index of the open polygon with these corners, each as x and y. */
    static int open(CornerClaims claims, int owner, int... points) {
        int polygon = claims.begin(owner, points[0], points[1]);
        accepted("begin", polygon);
        for (int k = 2; k < points.length; k += 2) {
            accepted("corner", claims.corner(polygon, points[k], points[k + 1]));
        }
        return polygon;
    }

    static int closed(CornerClaims claims, int owner, int... points) {
        int polygon = open(claims, owner, points);
        accepted("close", claims.close(polygon));
        return polygon;
    }

    private static void accepted(String call, int answer) {
        if (answer < 0) {
            throw new IllegalStateException(call + " answered " + answer);
        }
    }
}

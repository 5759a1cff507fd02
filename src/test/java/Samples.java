/** Texts that several tests tell. */
final class Samples {
    /** Two lands with a wavering border between them; the points 3 and 6 end three edges each. */
    static final String TWO_LANDS =
        "point 10 10;point 8 30;point 10 60;point 40 10;point 44 25;point 37 45;point 40 60;"
        + "point 70 10;point 70 60;point 25 62;ring 0 1 2 9 6 5 4 3;ring 3 4 5 6 8 7;";
    /** The order in which its points go, and their sizes then; by hand. */
    static final int[] TWO_LANDS_GONE = {9, 1, 5, 4, 0, 7};
    static final int[] TWO_LANDS_SIZES = {60, 100, 165, 200, 1500, 1500};

    /** A square whose ring begins at the point 2. */
    static final String SQUARE = "point 0 0;point 100 0;point 100 100;point 0 100;ring 2 3 0 1;";

    /** Three triangles over one edge, but only two of them rings. */
    static final String TWO_OVER_AN_EDGE =
        "point 0 0;point 100 0;point 50 20;point 50 50;point 50 80;ring 0 1 2;ring 1 0 3;";

    /** A square within a square. */
    static final String NEST = "point 0 0;point 100 0;point 100 100;point 0 100;"
        + "point 40 40;point 60 40;point 60 60;point 40 60;ring 0 1 2 3;ring 4 5 6 7;";

    /** A land as wide as the world may be. */
    static final String WORLD = "point 0 0;point 199 0;point 199 199;point 0 199;ring 0 1 2 3;";

    /** Six squares side by side: 24 points, 6 rings, 300 bytes at most. */
    static String sixSquares() {
        StringBuilder text = new StringBuilder();
        for (int k = 0; k < 6; k++) {
            int left = k % 3 * 3;
            int low = k / 3 * 3;
            place(text, left, low);
            place(text, left + 2, low);
            place(text, left + 2, low + 2);
            place(text, left, low + 2);
        }
        for (int k = 0; k < 6; k++) {
            text.append("ring").append(4 * k).append(' ').append(4 * k + 1).append(' ');
            text.append(4 * k + 2).append(' ').append(4 * k + 3).append(';');
        }
        return text.toString();
    }

    /** So many points without edges, one above another. */
    static String column(int many) {
        StringBuilder text = new StringBuilder();
        for (int i = 0; i < many; i++) {
            place(text, 0, i);
        }
        return text.toString();
    }

    /** The ten corners of a convex ring, by the sides it has; they go round with AREA above 0. */
    static void decagon(StringBuilder text, int left, int low) {
        int[] dx = {1, 2, 1, 0, -1, -1, -2, -1, 0, 1};
        int[] dy = {0, 1, 1, 1, 1, 0, -1, -1, -1, -1};
        int x = left + 1;
        int y = low;
        for (int i = 0; i < 10; i++) {
            x += dx[i];
            y += dy[i];
            place(text, x, y);
        }
    }

    /** As many stages as 24 points allow in rings that share nothing: 7, 7 and 1. */
    static String manyStages() {
        StringBuilder text = new StringBuilder();
        decagon(text, 0, 0);
        decagon(text, 6, 0);
        place(text, 0, 7);
        place(text, 2, 7);
        place(text, 2, 9);
        place(text, 0, 9);
        text.append("ring0 1 2 3 4 5 6 7 8 9;ring10 11 12 13 14 15 16 17 18 19;ring20 21 22 23;");
        return text.toString();
    }

    private static void place(StringBuilder text, int x, int y) {
        text.append("point").append(x).append(' ').append(y).append(';');
    }

    private Samples() {
    }
}

/** Texts that several tests tell. */
final class Samples {
    /** Two lands with a wavering border between them; the points 3 and 6 end three edges each. */
    static final String TWO_LANDS =
        "point 10 10;point 8 30;point 10 60;point 40 10;point 44 25;point 37 45;point 40 60;"
        + "point 70 10;point 70 60;point 25 62;ring 0 1 2 9 6 5 4 3;ring 3 4 5 6 8 7;";
    /** The order in which its points go, and their sizes then; by hand. */
    static final int[] TWO_LANDS_GONE = {9, 1, 5, 4, 0, 7};
    static final int[] TWO_LANDS_SIZES = {60, 100, 165, 200, 1500, 1500};

    /** A square whose ring begins at the point 2. */
    static final String SQUARE = "point 0 0;point 100 0;point 100 100;point 0 100;ring 2 3 0 1;";

    /** Three triangles over one edge, but only two of them rings. */
    static final String TWO_OVER_AN_EDGE =
        "point 0 0;point 100 0;point 50 20;point 50 50;point 50 80;ring 0 1 2;ring 1 0 3;";

    /** A square within a square. */
    static final String NEST = "point 0 0;point 100 0;point 100 100;point 0 100;"
        + "point 40 40;point 60 40;point 60 60;point 40 60;ring 0 1 2 3;ring 4 5 6 7;";

    private Samples() {
    }
}

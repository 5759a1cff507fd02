/** The boundary cases of NODES and ARCS, and of promises 6 to 11: rule, point, ring, corner, arc, along. */
public final class BoundsThereTest {
    private static final Checks T = new Checks("BoundsThereTest");
    private static final int MIN = Integer.MIN_VALUE;
    private static final int MAX = Integer.MAX_VALUE;
    private static final int[] FAR = {MIN, MIN + 1, -2, -1, MAX - 1, MAX};

    public static void main(String[] args) {
        ruleOfWhat();
        ruleOfNothingAndOfAll();
        nodesByEdges();
        nodesByPins();
        pointOfWhich();
        pointThatIsGoneOrNot();
        ringOfWhich();
        ringsThatHaveAnEdgeOfIt();
        cornerOfWhich();
        closedRings();
        arcOfWhich();
        arcsFromNodeToNode();
        arcsWithoutNodes();
        arcsFromANodeToItself();
        arcsOfTwoRings();
        arcsAreNumberedAsTheyAreMet();
        alongWhich();
        alongHowFar();
        T.finish();
    }

    private static void rules(String why, SharedBorders x, int... due) {
        for (int what = 0; what < due.length; what++) {
            T.due(why + " rule(" + what + ")", x.rule(what), due[what]);
        }
    }

    /** "How many: 0 POINTS, .. 7 PINNED ones. BAD." */
    private static void ruleOfWhat() {
        for (SharedBorders x : new SharedBorders[] {new SharedBorders(), T.told(Samples.SQUARE)}) {
            for (int what : FAR) {
                T.due("P6 rule(" + what + ")", x.rule(what), -1);
            }
            T.due("P6 rule(8)", x.rule(8), -1);
            T.isTrue("P6 rule(0)", x.rule(0) >= 0);
            T.isTrue("P6 rule(7)", x.rule(7) >= 0);
        }
    }

    private static void ruleOfNothingAndOfAll() {
        rules("P6 nothing", new SharedBorders(), 0, 0, 0, 0, 0, 0, 0, 0);
        rules("P6 one POINT", T.told("point 0 0;"), 1, 0, 0, 0, 0, 0, 0, 0);
        rules("P6 one PINNED", T.told("point 0 0;pin 0;"), 1, 0, 0, 0, 0, 0, 0, 1);
        rules("P6 24 POINTS", T.told(Samples.column(24)), 24, 0, 0, 0, 0, 0, 0, 0);
        rules("P6 a triangle", T.told("point 0 0;point 9 0;point 0 9;ring 0 1 2;"), 3, 1, 3, 0, 1, 0, 3, 0);
        rules("P6 six squares", T.told(Samples.sixSquares()), 24, 6, 24, 0, 6, 6, 24, 0);
        rules("P6 many stages", T.told(Samples.manyStages()), 24, 3, 24, 0, 3, 15, 24, 0);
        // All PINNED: each EDGE is an ARC, and nothing goes.
        SharedBorders x = T.told(Samples.sixSquares());
        for (int p = 0; p < 24; p++) {
            x.pin(p, 1);
        }
        rules("P6 all PINNED", x, 24, 6, 24, 24, 24, 0, 24, 24);
        // An EDGE of two RINGS is one EDGE.
        rules("P6 told twice", T.told("point 0 0;point 9 0;point 0 9;ring 0 1 2;ring 0 1 2;"), 3, 2, 3, 0, 1, 0, 3, 0);
    }

    private static void isNode(SharedBorders x, int p, int edges, int node) {
        T.due("P7 EDGES of " + p, x.point(p, 2), edges);
        T.due("P7 NODE " + p, x.point(p, 3), node);
    }

    /** "NODES: POINTS that .. end any number of EDGES but two" */
    private static void nodesByEdges() {
        // 0 ends four EDGES, 1 two, 5 none.
        SharedBorders x = T.told("point 50 50;point 90 40;point 90 60;point 10 40;point 10 60;point 0 0;ring 0 1 2;ring 0 3 4;");
        isNode(x, 0, 4, 1);
        isNode(x, 1, 2, 0);
        isNode(x, 5, 0, 1);
        T.due("P6 NODES that end EDGES", x.rule(3), 1);
        T.due("P6 POINTS that end EDGES", x.rule(6), 5);
        // Three RINGS round the POINT 0: it ends three EDGES, as do all others.
        x = T.told("point 50 50;point 50 90;point 90 30;point 10 30;ring 0 1 2;ring 0 2 3;ring 0 3 1;");
        for (int p = 0; p < 4; p++) {
            isNode(x, p, 3, 1);
        }
        rules("P6 all NODES", x, 4, 3, 6, 4, 6, 0, 4, 0);
        // Two EDGES, each in two RINGS, are two.
        x = T.told("point 0 0;point 90 0;point 0 90;ring 0 1 2;ring 2 1 0;");
        isNode(x, 0, 2, 0);
    }

    /** "NODES: POINTS that are PINNED" */
    private static void nodesByPins() {
        SharedBorders x = T.told(Samples.SQUARE + "point 150 0;pin 0;pin 4;");
        isNode(x, 0, 2, 1);
        isNode(x, 1, 2, 0);
        isNode(x, 4, 0, 1);
        T.due("P6 NODES that end EDGES", x.rule(3), 1);
        T.due("P6 PINNED", x.rule(7), 2);
        x.pin(0, 0);
        x.pin(4, 0);
        isNode(x, 0, 2, 0);
        isNode(x, 4, 0, 1);
    }

    /** "Of a POINT: 0 x, .. 7 whether it is PINNED. BAD." */
    private static void pointOfWhich() {
        SharedBorders x = T.told(Samples.column(24));
        for (int n : FAR) {
            T.due("P7 point(" + n + ", 0)", x.point(n, 0), -1);
            T.due("P7 point(0, " + n + ")", x.point(0, n), -1);
        }
        T.due("P7 point(24, 0)", x.point(24, 0), -1);
        T.due("P7 point(23, 1)", x.point(23, 1), 23);
        T.due("P7 point(0, 8)", x.point(0, 8), -1);
        T.due("P7 point(23, 8)", x.point(23, 8), -1);
        T.due("P7 point(23, 7)", x.point(23, 7), 0);
        x = T.told("point 5 6;");
        T.due("P7 point(0, 0)", x.point(0, 0), 5);
        T.due("P7 point(1, 0)", x.point(1, 0), -1);
        T.due("P7 point(1, 8)", x.point(1, 8), -1);
        T.due("P7 no POINTS", new SharedBorders().point(0, 7), -1);
    }

    /** "4 its ARC (NONE: it is a NODE), 5 the STAGE at which it is GONE first (NONE), 6 its SIZE then (NONE)" */
    private static void pointThatIsGoneOrNot() {
        SharedBorders x = T.told(Samples.SQUARE + "point 150 0;pin 3;");
        int[][] due = {{0, 1, 10000}, {0, -4, -4}, {0, -4, -4}, {-4, -4, -4}, {-4, -4, -4}};
        for (int p = 0; p < due.length; p++) {
            for (int i = 0; i < 3; i++) {
                T.due("P7 point(" + p + ", " + (4 + i) + ")", x.point(p, 4 + i), due[p][i]);
            }
        }
        // The last STAGE, and SIZE 0.
        x = T.told("point 0 0;point 50 0;point 100 0;point 100 100;point 0 100;ring 0 1 2 3 4;pin 3;pin 4;");
        T.due("P7 GONE at 1", x.point(1, 5), 1);
        T.due("P7 with SIZE 0", x.point(1, 6), 0);
        T.due("P7 GONE at the last", x.point(0, 5), x.rule(5));
        T.due("P7 its SIZE", x.point(0, 6), 10000);
        T.due("P7 not GONE", x.point(2, 5), -4);
        // SIZE then, not at first: TWO_LANDS has its POINT 4 at 185 first, and at 200 when it goes.
        x = T.told(Samples.TWO_LANDS);
        T.due("P16 size(4, 0)", x.size(4, 0), 185);
        T.due("P7 its SIZE then", x.point(4, 6), 200);
    }

    /** "Of a RING at a STAGE: 0 CORNERS, 1 AREA, 2 how many other RINGS. BAD." */
    private static void ringOfWhich() {
        SharedBorders x = T.told(Samples.sixSquares());
        for (int n : FAR) {
            T.due("P8 ring(" + n + ", 0, 0)", x.ring(n, 0, 0), -1);
            T.due("P8 ring(0, " + n + ", 0)", x.ring(0, n, 0), -1);
            T.due("P8 ring(0, 0, " + n + ")", x.ring(0, 0, n), -1);
        }
        T.due("P8 ring(5, 6, 0)", x.ring(5, 6, 0), 3);
        T.due("P8 ring(6, 6, 0)", x.ring(6, 6, 0), -1);
        T.due("P8 ring(5, 7, 0)", x.ring(5, 7, 0), -1);
        T.due("P8 ring(5, 6, 2)", x.ring(5, 6, 2), 0);
        T.due("P8 ring(5, 6, 3)", x.ring(5, 6, 3), -1);
        T.due("P8 no RINGS", T.told("point 0 0;").ring(0, 0, 0), -1);
        // "AREA (it may be below 0)": -1 is no BAD there.
        x = T.told("point 0 0;point 1 0;point 0 1;ring 2 1 0;");
        T.due("P8 AREA -1", x.ring(0, 0, 1), -1);
        T.due("P8 its CORNERS", x.ring(0, 0, 0), 3);
        // At each STAGE what is there.
        x = T.told(Samples.manyStages());
        T.due("P8 10 CORNERS", x.ring(0, 0, 0), 10);
        T.due("P8 3 CORNERS", x.ring(0, 15, 0), 3);
        T.due("P8 3 CORNERS", x.ring(1, 15, 0), 3);
        T.due("P8 no STAGE 16", x.ring(0, 16, 0), -1);
    }

    /** "2 how many other RINGS have an EDGE of it" */
    private static void ringsThatHaveAnEdgeOfIt() {
        // Three side by side: the middle one has two neighbours.
        String row = "point0 0;point20 0;point40 0;point60 0;point0 20;point20 20;point40 20;point60 20;";
        SharedBorders x = T.told(row + "ring0 1 5 4;ring1 2 6 5;ring2 3 7 6;");
        T.due("P8 on the left", x.ring(0, 0, 2), 1);
        T.due("P8 in the middle", x.ring(1, 0, 2), 2);
        T.due("P8 on the right", x.ring(2, 0, 2), 1);
        // A POINT that two share is no EDGE.
        x = T.told(row + "point 0 40;ring1 2 6 5;ring5 4 8;");
        T.due("P8 a POINT alone", x.ring(0, 0, 2), 0);
        T.due("P8 a POINT alone", x.ring(1, 0, 2), 0);
        // Two EDGES of one other RING: one RING. It goes round the first, and is one neighbour still.
        x = T.told("point0 0;point60 0;point60 60;point0 60;point30 20;ring0 1 4;ring0 4 1 2 3;");
        T.due("P8 two EDGES", x.ring(0, 0, 2), 1);
        T.due("P8 two EDGES", x.ring(1, 0, 2), 1);
        // Itself is no other.
        T.due("P8 alone", T.told(Samples.SQUARE).ring(0, 0, 2), 0);
        // As many as may be: a RING with five round it.
        String round = "point10 10;point20 10;point25 15;point20 20;point10 20;"
            + "point15 5;point24 8;point24 22;point15 25;point5 15;"
            + "ring0 1 2 3 4;ring0 1 5;ring1 2 6;ring2 3 7;ring3 4 8;ring4 0 9;";
        x = T.told(round);
        T.due("P8 five neighbours", x.ring(0, 0, 2), 5);
        T.due("P8 one neighbour", x.ring(5, 0, 2), 1);
    }

    /** "The i-th CORNER (0 on) of a RING at a STAGE (by the order it has; those GONE left out). BAD." */
    private static void cornerOfWhich() {
        SharedBorders x = T.told(Samples.manyStages());
        for (int n : FAR) {
            T.due("P9 corner(" + n + ", 0, 0)", x.corner(n, 0, 0), -1);
            T.due("P9 corner(0, " + n + ", 0)", x.corner(0, n, 0), -1);
            T.due("P9 corner(0, 0, " + n + ")", x.corner(0, 0, n), -1);
        }
        T.due("P9 corner(0, 0, 9)", x.corner(0, 0, 9), 9);
        T.due("P9 corner(0, 0, 10)", x.corner(0, 0, 10), -1);
        T.due("P9 corner(2, 0, 3)", x.corner(2, 0, 3), 23);
        T.due("P9 corner(2, 0, 4)", x.corner(2, 0, 4), -1);
        T.due("P9 corner(3, 0, 0)", x.corner(3, 0, 0), -1);
        T.isTrue("P9 corner(0, 15, 2)", x.corner(0, 15, 2) >= 0);
        T.due("P9 corner(0, 15, 3)", x.corner(0, 15, 3), -1);
        T.due("P9 corner(0, 16, 0)", x.corner(0, 16, 0), -1);
        // The first CORNER is GONE: the next one is first then.
        x = T.told("point 0 0;point 9 0;point 9 9;point 0 9;ring 0 1 2 3;");
        T.due("P12 gone(1)", x.gone(1), 0);
        T.due("P9 at STAGE 0", x.corner(0, 0, 0), 0);
        T.due("P9 at STAGE 1", x.corner(0, 1, 0), 1);
        T.due("P9 at STAGE 1", x.corner(0, 1, 2), 3);
        T.due("P9 at STAGE 1", x.corner(0, 1, 3), -1);
        T.due("P9 no RINGS", new SharedBorders().corner(0, 0, 0), -1);
    }

    /** "closed (the last one leads to the first)" */
    private static void closedRings() {
        SharedBorders x = T.told("point 0 0;point 9 0;point 9 9;point 0 9;ring 1 2 3 0;");
        T.due("P14 the last and the first", x.edge(0, 1, 0), 1);
        T.due("P14 the first and the last", x.edge(1, 0, 0), 1);
        T.due("P14 across", x.edge(1, 3, 0), 0);
        T.due("P6 as many EDGES as CORNERS", x.rule(2), 4);
        T.due("P16 the first CORNER's neighbours", x.size(1, 0), 81);
        T.due("P16 the last CORNER's neighbours", x.size(0, 0), 81);
    }

    private static void arcIs(String why, SharedBorders x, int a, int[] rings, int last, int... points) {
        T.due(why + " arc(" + a + ", 0)", x.arc(a, 0), points.length);
        T.due(why + " arc(" + a + ", 1)", x.arc(a, 1), points[0]);
        T.due(why + " arc(" + a + ", 2)", x.arc(a, 2), last);
        T.due(why + " arc(" + a + ", 3)", x.arc(a, 3), rings.length);
        for (int i = 0; i < points.length; i++) {
            T.due(why + " along(" + a + ", " + i + ", 0)", x.along(a, i, 0), points[i]);
        }
        for (int i = 0; i < rings.length; i++) {
            T.due(why + " along(" + a + ", " + i + ", 1)", x.along(a, i, 1), rings[i]);
        }
        T.due(why + " no POINT more", x.along(a, points.length, 0), -4);
        T.due(why + " no RING more", x.along(a, rings.length, 1), -4);
    }

    private static final int[] FIRST = {0};
    private static final int[] BOTH = {0, 1};

    /** "Of an ARC: 0 POINTS .. 3 in how many RINGS it is. BAD." */
    private static void arcOfWhich() {
        SharedBorders x = T.told(Samples.sixSquares());
        for (int n : FAR) {
            T.due("P10 arc(" + n + ", 0)", x.arc(n, 0), -1);
            T.due("P10 arc(0, " + n + ")", x.arc(0, n), -1);
        }
        T.due("P10 arc(5, 3)", x.arc(5, 3), 1);
        T.due("P10 arc(5, 4)", x.arc(5, 4), -1);
        T.due("P10 arc(6, 3)", x.arc(6, 3), -1);
        T.due("P10 arc(5, 1)", x.arc(5, 1), 20);
        T.due("P10 no ARCS", T.told("point 0 0;").arc(0, 0), -1);
        x = T.told(Samples.SQUARE);
        for (int p = 0; p < 4; p++) {
            x.pin(p, 1);
        }
        T.due("P10 the last of four", x.arc(3, 0), 2);
        T.due("P10 no fifth", x.arc(4, 0), -1);
    }

    /** "from a NODE to a NODE" */
    private static void arcsFromNodeToNode() {
        SharedBorders x = T.told(Samples.SQUARE + "pin 0;pin 1;");
        // The RING is 2 3 0 1: its first EDGE is amid an ARC that begins behind the last CORNER.
        arcIs("P10 the long one", x, 0, FIRST, 0, 1, 2, 3, 0);
        arcIs("P10 one EDGE", x, 1, FIRST, 1, 0, 1);
        T.due("P6 ARCS", x.rule(4), 2);
        T.due("P7 its ARC", x.point(2, 4), 0);
        T.due("P7 a NODE has none", x.point(0, 4), -4);
        x.pin(2, 1);
        x.pin(3, 1);
        arcIs("P10 each EDGE", x, 0, FIRST, 3, 2, 3);
        arcIs("P10 each EDGE", x, 1, FIRST, 0, 3, 0);
        arcIs("P10 each EDGE", x, 2, FIRST, 1, 0, 1);
        arcIs("P10 the last and the first", x, 3, FIRST, 2, 1, 2);
        T.due("P6 ARCS", x.rule(4), 4);
    }

    /** "if there is none, from the first CORNER of that RING on, closed"; "of a closed one each once", "the first" */
    private static void arcsWithoutNodes() {
        arcIs("P10 closed", T.told(Samples.SQUARE), 0, FIRST, 2, 2, 3, 0, 1);
        arcIs("P10 the least", T.told("point 0 0;point 9 0;point 0 9;ring 2 0 1;"), 0, FIRST, 2, 2, 0, 1);
        arcIs("P10 the longest", T.told(Samples.manyStages()), 1, new int[] {1}, 10, 10, 11, 12, 13, 14, 15, 16, 17, 18, 19);
        // A RING told twice, from another CORNER and the other way: as the first one goes.
        arcIs("P10 told twice", T.told("point 0 0;point 9 0;point 0 9;ring 1 2 0;ring 0 2 1;"), 0, BOTH, 1, 1, 2, 0);
    }

    /** A NODE alone on its RING: from it to it. */
    private static void arcsFromANodeToItself() {
        SharedBorders x = T.told(Samples.SQUARE + "pin 2;");
        arcIs("P10 from the first CORNER", x, 0, FIRST, 2, 2, 3, 0, 1, 2);
        x.pin(2, 0);
        x.pin(1, 1);
        arcIs("P10 from the last CORNER", x, 0, FIRST, 1, 1, 2, 3, 0, 1);
        T.due("P6 ARCS", x.rule(4), 1);
        x.pin(1, 0);
        arcIs("P10 closed again", x, 0, FIRST, 2, 2, 3, 0, 1);
        // Two RINGS that share one POINT.
        x = T.told("point 50 50;point 90 40;point 90 60;point 10 40;point 10 60;ring 1 2 0;ring 4 0 3;");
        arcIs("P10 the first RING", x, 0, FIRST, 0, 0, 1, 2, 0);
        arcIs("P10 the second RING", x, 1, new int[] {1}, 0, 0, 3, 4, 0);
    }

    /** "3 in how many RINGS it is"; "the i-th RING (by number) it is in" */
    private static void arcsOfTwoRings() {
        SharedBorders x = T.told("point 0 0;point 60 0;point 60 60;point 0 60;point 30 20;ring 0 4 1 2 3;ring 0 1 4;");
        arcIs("P10 of both", x, 0, BOTH, 1, 0, 4, 1);
        arcIs("P10 of the first", x, 1, FIRST, 0, 1, 2, 3, 0);
        arcIs("P10 of the second", x, 2, new int[] {1}, 1, 0, 1);
        T.due("P6 ARCS", x.rule(4), 3);
    }

    /** "RINGS by order, of each the EDGES by order (that of the first CORNER and the second first)" */
    private static void arcsAreNumberedAsTheyAreMet() {
        String points = "point 0 0;point 60 0;point 60 60;point 0 60;point 30 20;";
        SharedBorders x = T.told(points + "ring 0 1 4;ring 3 2 1 4 0;");
        arcIs("P10 the first EDGE", x, 0, FIRST, 1, 0, 1);
        // As the first RING goes, in which it is met.
        arcIs("P10 then the shared ones", x, 1, BOTH, 0, 1, 4, 0);
        arcIs("P10 then the second RING's", x, 2, new int[] {1}, 1, 0, 3, 2, 1);
        x = T.told(points + "ring 2 1 4 0 3;ring 0 1 4;");
        arcIs("P10 amid an ARC", x, 0, FIRST, 1, 0, 3, 2, 1);
        arcIs("P10 the shared ones", x, 1, BOTH, 0, 1, 4, 0);
        arcIs("P10 the last", x, 2, new int[] {1}, 1, 0, 1);
        int[] arcs = {-4, -4, 0, 0, 1};
        for (int p = 0; p < arcs.length; p++) {
            T.due("P7 the ARC of " + p, x.point(p, 4), arcs[p]);
        }
    }

    /** "The i-th POINT (0 on) of an ARC (what 0), the i-th RING it is in (1). BAD" */
    private static void alongWhich() {
        SharedBorders x = T.told(Samples.TWO_LANDS);
        for (int n : FAR) {
            T.due("P11 along(" + n + ", 0, 0)", x.along(n, 0, 0), -1);
            T.due("P11 along(0, 0, " + n + ")", x.along(0, 0, n), -1);
        }
        T.due("P11 along(2, 0, 0)", x.along(2, 0, 0), 6);
        T.due("P11 along(3, 0, 0)", x.along(3, 0, 0), -1);
        T.due("P11 along(0, 0, 1)", x.along(0, 0, 1), 0);
        T.due("P11 along(0, 0, 2)", x.along(0, 0, 2), -1);
        T.due("P11 no ARCS", new SharedBorders().along(0, 0, 0), -1);
    }

    /** "NONE: there are not so many" */
    private static void alongHowFar() {
        SharedBorders x = T.told(Samples.TWO_LANDS);
        T.due("P11 the last POINT", x.along(1, 3, 0), 3);
        T.due("P11 one more", x.along(1, 4, 0), -4);
        T.due("P11 the last RING", x.along(1, 1, 1), 1);
        T.due("P11 one more", x.along(1, 2, 1), -4);
        T.due("P11 one RING", x.along(0, 0, 1), 0);
        T.due("P11 one more", x.along(0, 1, 1), -4);
        for (int what = 0; what < 2; what++) {
            T.due("P11 the greatest", x.along(0, MAX, what), -4);
            T.due("P11 below 0", x.along(0, -1, what), -1);
            T.due("P11 the least", x.along(0, MIN, what), -1);
        }
        T.due("P11 BAD ahead of NONE", x.along(3, MAX, 0), -1);
        T.due("P11 BAD ahead of NONE", x.along(0, MAX, 2), -1);
    }
}

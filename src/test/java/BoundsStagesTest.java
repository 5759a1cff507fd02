/** The boundary cases of STAGES and reasons, and of promises 12 to 19: gone, left, edge, why, size, keep, limit, within. */
public final class BoundsStagesTest {
    private static final Checks T = new Checks("BoundsStagesTest");
    private static final int MIN = Integer.MIN_VALUE;
    private static final int MAX = Integer.MAX_VALUE;
    private static final int[] FAR = {MIN, MIN + 1, -2, -1, MAX - 1, MAX};
    private static final String TRIANGLE = "point 0 0;point 90 0;point 0 90;ring 0 1 2;";
    /** Two flat corners; 3 and 5 are PINNED, so that 0, 2 or 4 go behind them. */
    private static final String FLAT =
        "point 0 0;point 50 0;point 100 0;point 100 100;point 60 100;point 0 100;ring 0 1 2 3 4 5;pin 3;pin 5;";
    /** The POINT 2 stands over 0 and 1, which are an EDGE of the other RING. */
    private static final String OVER =
        "point 0 50;point 100 50;point 50 90;point 100 190;point 0 190;point 50 10;ring 0 2 1 3 4;ring 0 1 5;";

    public static void main(String[] args) {
        stagesThatThereAre();
        noStagesButTheFirst();
        theLeastSizeGoes();
        ofSeveralTheLeastNumber();
        tillNoneMay();
        twoEdgesBecomeOne();
        goneOfWhich();
        leftOfWhich();
        edgeOfWhich();
        edgeInHowManyRings();
        whyOfWhich();
        reason1();
        reason2();
        threeAndFourCorners();
        reason4();
        reason4ByPicture();
        reason4OfAFlatTriangle();
        reason4OfOtherRings();
        reason4OfTheFirstAndTheLast();
        reason4OnlyOfThoseThere();
        sizeOfWhich();
        sizesBySize();
        keepHowMany();
        limitHowLarge();
        withinWhich();
        withinOnAnEdge();
        withinAtCorners();
        withinByPicture();
        withinTheFirstRing();
        T.finish();
    }

    private static SharedBorders many() {
        return T.told(Samples.manyStages());
    }

    /** "STAGES 0 on": of each call that asks for one the last good and the first bad, on both sides. */
    private static void stagesThatThereAre() {
        SharedBorders x = many();
        T.due("STAGES behind STAGE 0", x.rule(5), 15);
        for (int s : new int[] {0, 15}) {
            T.isTrue("P8 ring(0, " + s + ", 0)", x.ring(0, s, 0) >= 3);
            T.isTrue("P9 corner(0, " + s + ", 0)", x.corner(0, s, 0) >= 0);
            T.isTrue("P13 left(" + s + ")", x.left(s) > 0);
            T.isTrue("P14 edge(0, 1, " + s + ")", x.edge(0, 1, s) >= 0);
            T.isTrue("P15 why(0, " + s + ")", x.why(0, s) >= 0);
            T.isTrue("P16 size(0, " + s + ")", x.size(0, s) != -1);
            T.due("P19 within(150, 150, " + s + ")", x.within(150, 150, s), -4);
        }
        for (int s : new int[] {MIN, -1, 16, 17, 24, 25, 26, MAX}) {
            T.due("P8 ring(0, " + s + ", 0)", x.ring(0, s, 0), -1);
            T.due("P9 corner(0, " + s + ", 0)", x.corner(0, s, 0), -1);
            T.due("P12 gone(" + s + ")", x.gone(s), -1);
            T.due("P13 left(" + s + ")", x.left(s), -1);
            T.due("P14 edge(0, 1, " + s + ")", x.edge(0, 1, s), -1);
            T.due("P15 why(0, " + s + ")", x.why(0, s), -1);
            T.due("P16 size(0, " + s + ")", x.size(0, s), -1);
            T.due("P19 within(0, 0, " + s + ")", x.within(0, 0, s), -1);
        }
    }

    private static void noStagesButTheFirst() {
        String[] texts = {"", "point 5 5;", TRIANGLE, TRIANGLE + "point 150 150;"};
        int[] left = {0, 0, 3, 3};
        for (int i = 0; i < texts.length; i++) {
            SharedBorders x = T.told(texts[i]);
            T.due("no STAGE 1: " + texts[i], x.rule(5), 0);
            T.due("P12 gone(1)", x.gone(1), -1);
            T.due("P13 left(0)", x.left(0), left[i]);
            T.due("P13 left(1)", x.left(1), -1);
            T.due("P19 within(150, 100, 0)", x.within(150, 100, 0), -4);
            T.due("P19 within(150, 100, 1)", x.within(150, 100, 1), -1);
            T.due("P18 limit(0)", x.limit(0), 0);
            T.due("P18 limit(MAX)", x.limit(MAX), 0);
            T.due("P17 keep(3)", x.keep(3), 0);
        }
    }

    /** "Of those that MAY GO it is that of least SIZE" */
    private static void theLeastSizeGoes() {
        // The greatest number has the least SIZE; then the first one has the greatest.
        SharedBorders x = T.told("point 0 0;point 100 0;point 100 100;point 1 99;ring 0 1 2 3;");
        T.due("size(3, 0)", x.size(3, 0), 9800);
        T.due("size(1, 0)", x.size(1, 0), 10000);
        T.due("gone(1)", x.gone(1), 3);
        x = T.told("point 0 0;point 100 0;point 100 100;point 0 101;ring 0 1 2 3;");
        T.due("size(0, 0)", x.size(0, 0), 10100);
        T.due("size(1, 0)", x.size(1, 0), 10000);
        T.due("size(2, 0)", x.size(2, 0), 10000);
        T.due("gone(1)", x.gone(1), 1);
        // One of least SIZE that may not go stays: a POINT lies in its triangle.
        x = T.told("point 0 0;point 100 0;point 100 100;point 1 99;point 2 97;ring 0 1 2 3;");
        T.due("why(3, 0)", x.why(3, 0), 4);
        T.due("gone(1)", x.gone(1), 2);
        T.due("size(2, 0)", x.size(2, 0), 9900);
    }

    /** "of several that of the least number" */
    private static void ofSeveralTheLeastNumber() {
        String points = "point 0 0;point 100 0;point 100 100;point 0 100;";
        T.due("all of one SIZE", T.told(points + "ring 0 1 2 3;").gone(1), 0);
        T.due("by number, not by order in the RING", T.told(points + "ring 3 2 1 0;").gone(1), 0);
        T.due("0 is PINNED", T.told(points + "ring 2 3 0 1;pin 0;").gone(1), 1);
        T.due("3 alone is not", T.told(points + "ring 2 3 0 1;pin 0;pin 1;pin 2;").gone(1), 3);
        // Of several RINGS, too: the second RING has the lesser numbers.
        SharedBorders x = T.told("point 50 50;point 60 50;point 60 60;point 50 60;"
            + "point 0 0;point 10 0;point 10 10;point 0 10;ring 4 5 6 7;ring 0 1 2 3;");
        T.due("gone(1)", x.gone(1), 0);
        T.due("gone(2)", x.gone(2), 4);
        T.due("no third", x.gone(3), -1);
    }

    /** "till none MAY" */
    private static void tillNoneMay() {
        SharedBorders x = many();
        int mayAtAll = 0;
        for (int p = 0; p < 24; p++) {
            T.isTrue("why(" + p + ", 15) is a reason", x.why(p, 15) > 0);
            mayAtAll += x.why(p, 14) == 0 ? 1 : 0;
        }
        T.isTrue("at the STAGE ahead one may", mayAtAll > 0);
        // Each POINT that goes is one that may go at the STAGE ahead, and is GONE at its own.
        for (int s = 1; s <= 15; s++) {
            int p = x.gone(s);
            T.due("why at the STAGE ahead", x.why(p, s - 1), 0);
            T.due("why at its own", x.why(p, s), 1);
            T.due("its STAGE", x.point(p, 5), s);
            T.due("its SIZE then", x.point(p, 6), x.size(p, s - 1));
        }
    }

    /** "the two EDGES that it ended are one, from the one ahead to the one behind, in all RINGS that had it" */
    private static void twoEdgesBecomeOne() {
        SharedBorders x = T.told("point 0 0;point 60 0;point 60 60;point 0 60;point 30 5;point 30 30;ring 0 4 1 2 3;ring 0 4 1 5;");
        T.due("gone(1)", x.gone(1), 4);
        T.due("P14 ahead", x.edge(0, 4, 0), 2);
        T.due("P14 behind", x.edge(4, 1, 0), 2);
        T.due("P14 not yet", x.edge(0, 1, 0), 0);
        T.due("P14 one EDGE in both", x.edge(0, 1, 1), 2);
        T.due("P14 no more", x.edge(0, 4, 1), 0);
        T.due("P14 no more", x.edge(4, 1, 1), 0);
        T.due("P8 CORNERS", x.ring(0, 1, 0), 4);
        T.due("P8 CORNERS", x.ring(1, 1, 0), 3);
        T.due("P8 neighbours as ever", x.ring(0, 1, 2), 1);
        // The last CORNER goes: the one ahead of it leads to the first.
        x = T.told("point 0 0;point 60 0;point 60 60;point 1 30;ring 0 1 2 3;");
        T.due("gone(1)", x.gone(1), 3);
        T.due("P14 edge(2, 0, 1)", x.edge(2, 0, 1), 1);
    }

    /** "The POINT that is GONE at STAGE s (1 on) first. BAD." */
    private static void goneOfWhich() {
        SharedBorders x = many();
        for (int s : FAR) {
            T.due("P12 gone(" + s + ")", x.gone(s), -1);
        }
        T.due("P12 gone(0)", x.gone(0), -1);
        T.due("P12 gone(1)", x.gone(1), 0);
        T.isTrue("P12 gone(15)", x.gone(15) >= 0);
        T.due("P12 gone(16)", x.gone(16), -1);
        T.due("P12 nothing", new SharedBorders().gone(0), -1);
        T.due("P12 nothing", new SharedBorders().gone(1), -1);
    }

    /** "How many POINTS end EDGES at a STAGE. BAD." */
    private static void leftOfWhich() {
        SharedBorders x = many();
        for (int s = 0; s <= 15; s++) {
            T.due("P13 left(" + s + ")", x.left(s), 24 - s);
        }
        T.due("P13 left(16)", x.left(16), -1);
        T.due("P13 left(-1)", x.left(-1), -1);
        T.due("P13 those without EDGES do not count", T.told(Samples.column(24)).left(0), 0);
        T.due("P13 nor here", T.told(TRIANGLE + "point 150 150;pin 3;").left(0), 3);
    }

    /** "BAD (p may be q: 0)" */
    private static void edgeOfWhich() {
        SharedBorders x = T.told(Samples.sixSquares());
        for (int n : FAR) {
            T.due("P14 edge(" + n + ", 0, 0)", x.edge(n, 0, 0), -1);
            T.due("P14 edge(0, " + n + ", 0)", x.edge(0, n, 0), -1);
            T.due("P14 edge(" + n + ", " + n + ", 0)", x.edge(n, n, 0), -1);
            T.due("P14 edge(0, 1, " + n + ")", x.edge(0, 1, n), -1);
        }
        T.due("P14 edge(23, 20, 0)", x.edge(23, 20, 0), 1);
        T.due("P14 edge(24, 20, 0)", x.edge(24, 20, 0), -1);
        T.due("P14 edge(20, 24, 0)", x.edge(20, 24, 0), -1);
        T.due("P14 edge(24, 24, 0)", x.edge(24, 24, 0), -1);
        T.due("P14 p is q", x.edge(0, 0, 0), 0);
        T.due("P14 p is q", x.edge(23, 23, 6), 0);
        T.due("P14 p is q, no STAGE", x.edge(23, 23, 7), -1);
        T.due("P14 p is q, GONE", x.edge(0, 0, 6), 0);
        T.due("P14 p is q, without EDGES", T.told("point 1 1;").edge(0, 0, 0), 0);
        T.due("P14 nothing", new SharedBorders().edge(0, 0, 0), -1);
    }

    /** "In how many RINGS two POINTS are an EDGE at a STAGE"; "(whichever way)" */
    private static void edgeInHowManyRings() {
        SharedBorders x = T.told(OVER);
        T.due("P14 in none", x.edge(0, 3, 0), 0);
        T.due("P14 in one", x.edge(0, 1, 0), 1);
        T.due("P14 in one", x.edge(1, 0, 0), 1);
        x = T.told("point 0 0;point 90 0;point 0 90;ring 0 1 2;ring 1 0 2;");
        T.due("P14 in two", x.edge(0, 1, 0), 2);
        T.due("P14 in two", x.edge(1, 0, 0), 2);
        T.due("P14 without EDGES", T.told("point 1 1;point 2 2;").edge(0, 1, 0), 0);
    }

    /** "Why a POINT may not go at a STAGE .. BAD." */
    private static void whyOfWhich() {
        SharedBorders x = T.told(Samples.sixSquares());
        for (int n : FAR) {
            T.due("P15 why(" + n + ", 0)", x.why(n, 0), -1);
            T.due("P15 why(0, " + n + ")", x.why(0, n), -1);
        }
        T.due("P15 why(23, 0)", x.why(23, 0), 0);
        T.due("P15 why(24, 0)", x.why(24, 0), -1);
        T.due("P15 why(23, 6)", x.why(23, 6), 2);
        T.due("P15 why(23, 7)", x.why(23, 7), -1);
        T.due("P15 nothing", new SharedBorders().why(0, 0), -1);
    }

    /** "if it is no NODE (nor GONE)" */
    private static void reason1() {
        SharedBorders x = T.told(Samples.TWO_LANDS + "point 100 100;pin 7;");
        T.due("P15 three EDGES", x.why(3, 0), 1);
        T.due("P15 PINNED", x.why(7, 0), 1);
        T.due("P15 without EDGES", x.why(10, 0), 1);
        T.due("P15 not GONE yet", x.why(9, 0), 0);
        T.due("P15 GONE now", x.why(9, 1), 1);
        T.due("P15 GONE since long", x.why(9, x.rule(5)), 1);
        // Ahead of all other reasons.
        T.due("P15 1 ahead of 2", T.told(TRIANGLE + "pin 0;").why(0, 0), 1);
        T.due("P15 1 ahead of 4", T.told(Samples.SQUARE + "point 10 10;pin 0;").why(0, 0), 1);
        // Four EDGES at a POINT that two RINGS share alone.
        T.due("P15 four EDGES", T.told("point 50 50;point 90 40;point 90 60;point 10 40;point 10 60;"
            + "ring 0 1 2;ring 0 3 4;").why(0, 0), 1);
        x = T.told(Samples.SQUARE + "pin 0;");
        x.pin(0, 0);
        T.due("P15 PINNED no more", x.why(0, 0), 0);
    }

    /** "if its neighbours are no EDGE already" */
    private static void reason2() {
        SharedBorders x = T.told(OVER);
        T.due("P15 an EDGE of another RING", x.why(2, 0), 2);
        T.due("P15 2 ahead of 4", T.told(OVER + "point 50 60;").why(2, 0), 2);
        T.due("P15 3 may", x.why(3, 0), 0);
        // Without the other RING it may.
        T.due("P15 no EDGE", T.told(OVER.replace("ring 0 1 5;", "")).why(2, 0), 0);
        // At a later STAGE they become one.
        x = T.told("point 0 0;point 100 0;point 50 20;point 0 90;point 90 80;ring 0 1 2;ring 0 1 4 3;");
        T.due("P15 not yet", x.why(3, 0), 0);
        T.due("P15 now", x.why(3, 1), 2);
    }

    /** "if all RINGS that have it have more than three CORNERS" */
    private static void threeAndFourCorners() {
        SharedBorders x = T.told(TRIANGLE);
        for (int p = 0; p < 3; p++) {
            T.due("P15 of three CORNERS", x.why(p, 0), 2);
        }
        T.due("P15 of three, and a POINT lies there", T.told(TRIANGLE + "point 9 9;").why(0, 0), 2);
        x = T.told(Samples.SQUARE);
        for (int p = 0; p < 4; p++) {
            T.due("P15 of four CORNERS", x.why(p, 0), 0);
            T.due("P15 of three then", x.why(p, 1), p == 0 ? 1 : 2);
        }
        // One RING of four and one of three have it: all of them count.
        x = T.told("point 0 0;point 90 0;point 90 90;point 0 90;ring 0 1 2 3;ring 0 1 2;");
        T.due("P15 in a RING of four and one of three", x.why(1, 0), 2);
        T.due("P15 in the RING of four alone", x.why(3, 0), 2);
    }

    /** "if no other POINT that is not GONE (one without EDGES, too) lies in that triangle or on its border" */
    private static void reason4() {
        // The triangle of 0 is that of 0 0, 90 0, 0 90: its far side has x and y 90 together.
        String square = "point 0 0;point 90 0;point 90 90;point 0 90;point 150 150;ring 0 1 2 3;";
        int[][] in = {{1, 1}, {1, 88}, {88, 1}, {30, 30}, {44, 45}, {45, 45}, {1, 89}, {89, 1}};
        int[][] out = {{45, 46}, {46, 45}, {2, 89}, {89, 2}, {91, 0}, {0, 91}, {150, 0}, {0, 150}, {89, 89}, {45, 91}};
        SharedBorders x = T.told(square);
        for (int[] at : in) {
            T.due("move", x.move(4, at[0], at[1]), 1);
            T.due("P15 in it: " + at[0] + " " + at[1], x.why(0, 0), 4);
        }
        for (int[] at : out) {
            T.due("move", x.move(4, at[0], at[1]), 1);
            T.due("P15 not in it: " + at[0] + " " + at[1], x.why(0, 0), 0);
        }
        x.move(4, 45, 45);
        x.pin(4, 1);
        T.due("P15 PINNED and without EDGES", x.why(0, 0), 4);
        // On the border's line, but beyond its end.
        T.due("P15 beyond", T.told("point 20 20;point 60 20;point 60 60;point 20 60;point 70 10;ring 0 1 2 3;").why(0, 0), 0);
        T.due("P15 beyond", T.told("point 20 20;point 60 20;point 60 60;point 20 60;point 10 70;ring 0 1 2 3;").why(0, 0), 0);
        // A flat triangle holds nothing but its line.
        x = T.told("point 20 0;point 40 0;point 60 0;point 40 50;point 10 0;point 61 0;point 40 1;ring 0 1 2 3;");
        T.due("P15 flat", x.why(1, 0), 0);
        T.due("P12 the flat one goes", x.gone(1), 1);
    }

    /** A slanted land, from each of its CORNERS on, either way; the POINT 4 has no EDGES. */
    private static final String SLANTED = "point 1 1;point 5 2;point 6 6;point 2 5;point 99 99;";
    private static final String[] RINGS = {"ring 0 1 2 3;", "ring 1 2 3 0;", "ring 2 3 0 1;", "ring 3 0 1 2;",
        "ring 3 2 1 0;", "ring 2 1 0 3;", "ring 1 0 3 2;", "ring 0 3 2 1;"};

    /** The POINT 4 at every place: x it can not come there, # it lies in the triangle of p, . it does not. */
    private static void picture(String text, int p, String... rows) {
        SharedBorders x = T.told(text);
        for (int py = 0; py < rows.length; py++) {
            for (int px = 0; px < rows[py].length(); px++) {
                char sign = rows[py].charAt(px);
                String where = text + " at " + px + " " + py + ": ";
                T.due(where + "P20 move", x.move(4, px, py), sign == 'x' ? -2 : 1);
                if (sign != 'x') {
                    T.due(where + "P15 why(" + p + ", 0)", x.why(p, 0), sign == '#' ? 4 : 0);
                }
            }
        }
    }

    private static void reason4ByPicture() {
        for (String ring : RINGS) {
            picture(SLANTED + ring, 0, "........", ".x......", "..###x..", "..###...", "..##....", "..x.....", "......x.", "........");
            picture(SLANTED + ring, 2, "........", ".x......", ".....x..", "....##..", "...###..", "..x###..", "......x.", "........");
            // Its far side has no places on it: 4 3 lies just in it, 3 5 just not.
            picture("point 1 1;point 5 2;point 6 7;point 2 6;point 99 99;" + ring, 0,
                "........", ".x......", "..###x..", "..###...", "..##....", "..#.....", "..x.....", "......x.");
        }
    }

    /** A flat triangle is its line, which is all EDGES: none lies in it, nor do those beyond its ends. */
    private static void reason4OfAFlatTriangle() {
        String[] upright = {"........", "...x....", "...x....", "...x..x.", "...x....", "...x....", "........", "........"};
        String[] farRight = {"........", ".......x", ".......x", "....x..x", ".......x", ".......x", "........", "........"};
        String[] level = {"........", "........", "........", ".xxxxx..", "........", "........", "...x....", "........"};
        String[] rising = {"........", ".x......", ".xx.....", ".x.x....", ".x..x...", ".xxxxx..", "........", "........"};
        String[] falling = {"........", ".....x..", "....xx..", "...x.x..", "..x..x..", ".xxxxx..", "........", "........"};
        for (String ring : RINGS) {
            picture("point 3 1;point 3 3;point 3 5;point 6 3;point 99 99;" + ring, 1, upright);
            picture("point 7 1;point 7 3;point 7 5;point 4 3;point 99 99;" + ring, 1, farRight);
            picture("point 1 3;point 3 3;point 5 3;point 3 6;point 99 99;" + ring, 1, level);
            picture("point 1 1;point 3 3;point 5 5;point 1 5;point 99 99;" + ring, 1, rising);
            picture("point 5 1;point 3 3;point 1 5;point 5 5;point 99 99;" + ring, 1, falling);
        }
    }

    /** CORNERS of other RINGS, and of its own, lie there, too. */
    private static void reason4OfOtherRings() {
        SharedBorders x = T.told("point 0 0;point 90 0;point 90 90;point 0 90;point 5 5;point 15 5;point 5 15;ring 0 1 2 3;ring 4 5 6;");
        T.due("P15 a RING lies in it", x.why(0, 0), 4);
        T.due("P15 on the other side none", x.why(2, 0), 0);
        // Its own RING: 4 is a dent that reaches into the triangle of 1.
        x = T.told("point 0 0;point 90 0;point 90 90;point 0 90;point 50 30;ring 0 1 2 3 4;");
        T.due("P15 its own RING's", x.why(1, 0), 4);
        T.due("P15 the dent itself", x.why(4, 0), 0);
        // Its neighbours are its corners.
        T.due("P15 but its corners", T.told(Samples.SQUARE).why(1, 0), 0);
    }

    /** The POINT 0, too, and the last of 24. */
    private static void reason4OfTheFirstAndTheLast() {
        String square = "ring 1 2 3 4;point 0 0;point 90 0;point 90 90;point 0 90;";
        T.due("P15 the POINT 0", T.told("point 9 9;" + square).why(1, 0), 4);
        T.due("P15 the POINT 0", T.told("point 99 9;" + square).why(1, 0), 0);
        StringBuilder text = new StringBuilder("point0 0;point90 0;point90 90;point0 90;ring0 1 2 3;");
        for (int i = 4; i < 24; i++) {
            text.append("point99 ").append(i).append(';');
        }
        SharedBorders x = T.told(text.toString());
        T.due("P15 the POINT 23 far off", x.why(0, 0), 0);
        x.move(23, 9, 9);
        T.due("P15 the POINT 23", x.why(0, 0), 4);
    }

    /** "no other POINT that is not GONE" */
    private static void reason4OnlyOfThoseThere() {
        SharedBorders x = T.told("point 0 0;point 90 0;point 90 90;point 0 90;point 50 30;ring 0 1 2 3 4;pin 0;pin 2;pin 3;");
        T.due("P15 while it is there", x.why(1, 0), 4);
        T.due("P12 it goes", x.gone(1), 4);
        T.due("P15 when it is GONE", x.why(1, 1), 0);
        T.due("P12 then the other", x.gone(2), 1);
    }

    /** "SIZE of a POINT that is no NODE, nor GONE, at a STAGE. BAD; NONE: it is." */
    private static void sizeOfWhich() {
        SharedBorders x = T.told(Samples.TWO_LANDS + "point 100 100;pin 7;");
        for (int n : FAR) {
            T.due("P16 size(" + n + ", 0)", x.size(n, 0), -1);
            T.due("P16 size(0, " + n + ")", x.size(0, n), -1);
        }
        T.due("P16 size(11, 0)", x.size(11, 0), -1);
        T.due("P16 without EDGES", x.size(10, 0), -4);
        T.due("P16 three EDGES", x.size(3, 0), -4);
        T.due("P16 PINNED", x.size(7, 0), -4);
        T.due("P16 not GONE yet", x.size(9, 0), 60);
        T.due("P16 GONE now", x.size(9, 1), -4);
        T.due("P16 GONE since long", x.size(9, x.rule(5)), -4);
        T.due("P16 BAD ahead of NONE", x.size(3, x.rule(5) + 1), -1);
        T.due("P16 BAD ahead of NONE", x.size(10, -1), -1);
        T.due("P16 one that may not go has a SIZE", T.told(TRIANGLE).size(0, 0), 8100);
        T.due("P16 nothing", new SharedBorders().size(0, 0), -1);
    }

    /** "SIZE of a POINT: twice what the triangle of it and its two neighbours holds" */
    private static void sizesBySize() {
        T.due("P16 flat", T.told(FLAT).size(1, 0), 0);
        T.due("P16 least", T.told("point 0 0;point 1 0;point 0 1;ring 0 1 2;").size(1, 0), 1);
        T.due("P16 the other way", T.told("point 0 0;point 1 0;point 0 1;ring 2 1 0;").size(1, 0), 1);
        T.due("P16 greatest", T.told(Samples.WORLD).size(3, 0), 39601);
        // A dent has a SIZE as a bulge has.
        T.due("P16 a dent", T.told("point 0 0;point 90 0;point 90 90;point 0 90;point 45 10;ring 0 4 1 2 3;").size(4, 0), 900);
    }

    /** "The first STAGE at which n POINTS at most end EDGES. BAD: n below 0; NONE." */
    private static void keepHowMany() {
        SharedBorders x = many();
        T.due("P17 keep(MIN)", x.keep(MIN), -1);
        T.due("P17 keep(-1)", x.keep(-1), -1);
        T.due("P17 keep(0)", x.keep(0), -4);
        T.due("P17 keep(8)", x.keep(8), -4);
        for (int n = 9; n <= 24; n++) {
            T.due("P17 keep(" + n + ")", x.keep(n), 24 - n);
        }
        T.due("P17 keep(25)", x.keep(25), 0);
        T.due("P17 keep(MAX)", x.keep(MAX), 0);
        T.due("P17 nothing", new SharedBorders().keep(0), 0);
        T.due("P17 nothing", new SharedBorders().keep(-1), -1);
        T.due("P17 none with EDGES", T.told(Samples.column(24)).keep(0), 0);
        T.due("P17 three at least", T.told(TRIANGLE).keep(2), -4);
        T.due("P17 three", T.told(TRIANGLE).keep(3), 0);
    }

    /** "The last STAGE up to which each was GONE with a SIZE of a at most. BAD: a below 0." */
    private static void limitHowLarge() {
        SharedBorders x = T.told(FLAT);
        T.due("P12 flat ones first", x.gone(1), 1);
        T.due("P12 flat ones first", x.gone(2), 4);
        T.due("P12 then the least number", x.gone(3), 0);
        T.due("STAGES", x.rule(5), 3);
        T.due("P18 limit(MIN)", x.limit(MIN), -1);
        T.due("P18 limit(-1)", x.limit(-1), -1);
        T.due("P18 limit(0)", x.limit(0), 2);
        T.due("P18 limit(9999)", x.limit(9999), 2);
        T.due("P18 limit(10000)", x.limit(10000), 3);
        T.due("P18 limit(MAX)", x.limit(MAX), 3);
        T.due("P18 nothing", new SharedBorders().limit(0), 0);
        T.due("P18 nothing", new SharedBorders().limit(-1), -1);
        // A lesser SIZE behind a greater one does not count.
        x = T.told("point 100 60;point 50 70;point 0 90;point 70 70;point 90 90;ring 0 1 2 3 4;");
        T.due("P7 first", x.point(x.gone(1), 6), 400);
        T.due("P7 then", x.point(x.gone(2), 6), 200);
        T.due("P18 limit(200)", x.limit(200), 0);
        T.due("P18 limit(399)", x.limit(399), 0);
        T.due("P18 limit(400)", x.limit(400), 2);
    }

    /** "a place (x, y 0 to 199) .. at a STAGE. BAD" */
    private static void withinWhich() {
        SharedBorders x = T.told(Samples.WORLD);
        for (int n : FAR) {
            T.due("P19 within(" + n + ", 5, 0)", x.within(n, 5, 0), -1);
            T.due("P19 within(5, " + n + ", 0)", x.within(5, n, 0), -1);
            T.due("P19 within(5, 5, " + n + ")", x.within(5, 5, n), -1);
        }
        T.due("P19 within(200, 5, 0)", x.within(200, 5, 0), -1);
        T.due("P19 within(5, 200, 0)", x.within(5, 200, 0), -1);
        T.due("P19 within(5, 5, 2)", x.within(5, 5, 2), -1);
        T.due("P19 BAD ahead of STATE", x.within(0, 0, 2), -1);
        T.due("P19 BAD ahead of STATE", x.within(0, 200, 0), -1);
        for (int[] at : new int[][] {{0, 0}, {199, 0}, {0, 199}, {199, 199}, {0, 100}, {100, 199}}) {
            T.due("P19 the rim of the world", x.within(at[0], at[1], 0), -2);
            T.due("P19 without RINGS", T.told("point 5 5;").within(at[0], at[1], 0), -4);
        }
        for (int[] at : new int[][] {{1, 1}, {198, 1}, {1, 198}, {198, 198}}) {
            T.due("P19 just within", x.within(at[0], at[1], 0), 0);
        }
    }

    /** "STATE: it lies on an EDGE there" */
    private static void withinOnAnEdge() {
        SharedBorders x = T.told(Samples.WORLD);
        T.due("P12 gone(1)", x.gone(1), 0);
        T.due("P19 no EDGE there yet", x.within(99, 100, 0), 0);
        T.due("P19 on the new EDGE", x.within(99, 100, 1), -2);
        T.due("P19 just within", x.within(100, 100, 1), 0);
        T.due("P19 just without", x.within(99, 99, 1), -4);
        T.due("P19 the old EDGES are no more", x.within(0, 0, 1), -4);
        T.due("P19 nor here", x.within(0, 100, 1), -4);
        T.due("P19 its ends are on it", x.within(0, 199, 1), -2);
        // An EDGE of any RING, though it lies within another.
        x = T.told(Samples.NEST);
        T.due("P19 on the inner EDGE", x.within(50, 40, 0), -2);
        T.due("P19 on the inner CORNER", x.within(40, 40, 0), -2);
        T.due("P19 on the inner EDGE's line", x.within(39, 40, 0), 0);
        T.due("P19 on the inner EDGE's line", x.within(61, 40, 0), 0);
        // A POINT without EDGES is no EDGE.
        T.due("P19 on such a POINT", T.told(Samples.SQUARE + "point 50 50;").within(50, 50, 0), 0);
        T.due("P19 on such a POINT", T.told(Samples.SQUARE + "point 150 50;").within(150, 50, 0), -4);
    }

    /** Places on the height of CORNERS, on either side, of peaks, of steps and of level EDGES. */
    private static void withinAtCorners() {
        // A diamond: its corners are at 50 10, 90 50, 50 90, 10 50.
        SharedBorders x = T.told("point 50 10;point 90 50;point 50 90;point 10 50;ring 0 1 2 3;");
        int[][] in = {{50, 11}, {50, 89}, {11, 50}, {89, 50}, {50, 50}, {49, 12}, {30, 31}};
        int[][] out = {{49, 10}, {51, 10}, {49, 90}, {51, 90}, {9, 50}, {91, 50}, {0, 50}, {0, 10}, {0, 90}, {30, 29}, {50, 9}, {50, 91}};
        for (int[] at : in) {
            T.due("P19 in the diamond: " + at[0] + " " + at[1], x.within(at[0], at[1], 0), 0);
        }
        for (int[] at : out) {
            T.due("P19 out of it: " + at[0] + " " + at[1], x.within(at[0], at[1], 0), -4);
        }
        // Steps with level EDGES at 50, up and down.
        x = T.told("point 10 10;point 90 10;point 90 50;point 70 50;point 70 90;point 30 90;point 30 50;point 10 50;ring 0 1 2 3 4 5 6 7;");
        T.due("P19 between the steps", x.within(50, 50, 0), 0);
        T.due("P19 on a step", x.within(20, 50, 0), -2);
        T.due("P19 beside the steps", x.within(5, 50, 0), -4);
        T.due("P19 beside the steps", x.within(95, 50, 0), -4);
        T.due("P19 above a step", x.within(20, 51, 0), -4);
        T.due("P19 below a step", x.within(20, 49, 0), 0);
        T.due("P19 above a step", x.within(80, 51, 0), -4);
        // A bay: its mouth is out.
        x = T.told("point 10 10;point 90 10;point 90 90;point 50 20;point 10 90;ring 0 1 2 3 4;");
        T.due("P19 in the bay", x.within(50, 50, 0), -4);
        T.due("P19 at its foot", x.within(50, 21, 0), -4);
        T.due("P19 under its foot", x.within(50, 19, 0), 0);
        T.due("P19 beside its foot", x.within(20, 20, 0), 0);
        T.due("P19 beside its foot", x.within(80, 20, 0), 0);
    }

    /** o on an EDGE, # within, . not. */
    private static void within(String text, String... rows) {
        SharedBorders x = T.told(text);
        for (int py = 0; py < rows.length; py++) {
            for (int px = 0; px < rows[py].length(); px++) {
                char sign = rows[py].charAt(px);
                T.due(text + " P19 within(" + px + ", " + py + ", 0)", x.within(px, py, 0), sign == 'o' ? -2 : sign == '#' ? 0 : -4);
            }
        }
    }

    private static void withinByPicture() {
        for (String ring : RINGS) {
            within(SLANTED + ring, "........", ".o......", "..###o..", "..####..", "..####..", "..o###..", "......o.", "........");
            within("point 1 1;point 6 1;point 6 6;point 3 2;" + ring, "........", ".oooooo.", "...o##o.", "....##o.", ".....#o.", "......o.", "......o.", "........");
            within("point 3 0;point 6 3;point 3 6;point 0 3;" + ring, "...o....", "..o#o...", ".o###o..", "o#####o.", ".o###o..", "..o#o...", "...o....", "........");
        }
    }

    /** "The first RING within which a place lies"; "NONE" */
    private static void withinTheFirstRing() {
        SharedBorders x = T.told(Samples.NEST);
        T.due("P19 in both, the outer first", x.within(50, 50, 0), 0);
        T.due("P19 in the outer alone", x.within(20, 20, 0), 0);
        T.due("P19 in none", x.within(150, 50, 0), -4);
        x = T.told(Samples.NEST.replace("ring 0 1 2 3;ring 4 5 6 7;", "ring 4 5 6 7;ring 0 1 2 3;"));
        T.due("P19 in both, the inner first", x.within(50, 50, 0), 0);
        T.due("P19 in the outer alone", x.within(20, 20, 0), 1);
        T.due("P19 in the last of six", T.told(Samples.sixSquares()).within(7, 4, 0), 5);
        T.due("P19 whichever way it goes", T.told("point 0 0;point 90 0;point 0 90;ring 2 1 0;").within(5, 5, 0), 0);
    }
}

/** Promises 6 to 11: rule, point, ring, corner, arc, along. */
public final class ThereTest {
    private static final Checks T = new Checks("ThereTest");

    public static void main(String[] args) {
        rule();
        point();
        ring();
        corner();
        arcsOfTwoLands();
        closedArcs();
        wrongArcs();
        T.finish();
    }

    private static void rules(SharedBorders x, int... due) {
        for (int what = 0; what < due.length; what++) {
            T.due("rule(" + what + ")", x.rule(what), due[what]);
        }
    }

    private static void rule() {
        SharedBorders x = T.told(Samples.TWO_LANDS);
        rules(x, 10, 2, 11, 2, 3, 6, 10, 0);
        T.due("rule(-1)", x.rule(-1), -1);
        T.due("rule(8)", x.rule(8), -1);
        x.pin(0, 1);
        x.pin(3, 1);
        rules(x, 10, 2, 11, 3, 4, 6, 10, 2);
        // Points without edges are nodes, but no nodes that end edges.
        rules(T.told(Samples.SQUARE + "point 150 9;point 160 9;pin 5;"), 6, 1, 4, 0, 1, 1, 4, 1);
        rules(T.told(Samples.TWO_OVER_AN_EDGE), 5, 2, 5, 2, 3, 0, 4, 0);
    }

    private static void points(SharedBorders x, int p, int... due) {
        for (int what = 0; what < due.length; what++) {
            T.due("point(" + p + ", " + what + ")", x.point(p, what), due[what]);
        }
    }

    private static void point() {
        SharedBorders x = T.told(Samples.TWO_LANDS + "point 100 3;");
        points(x, 0, 10, 10, 2, 0, 0, 5, 1500, 0);
        points(x, 2, 10, 60, 2, 0, 0, -4, -4, 0);
        points(x, 3, 40, 10, 3, 1, -4, -4, -4, 0);
        points(x, 5, 37, 45, 2, 0, 1, 3, 165, 0);
        points(x, 8, 70, 60, 2, 0, 2, -4, -4, 0);
        points(x, 9, 25, 62, 2, 0, 0, 1, 60, 0);
        points(x, 10, 100, 3, 0, 1, -4, -4, -4, 0);
        x.pin(5, 1);
        points(x, 5, 37, 45, 2, 1, -4, -4, -4, 1);
        points(x, 4, 44, 25, 2, 0, 2, 3, 185, 0);
        T.due("point(-1, 0)", x.point(-1, 0), -1);
        T.due("point(11, 0)", x.point(11, 0), -1);
        T.due("point(0, -1)", x.point(0, -1), -1);
        T.due("point(0, 8)", x.point(0, 8), -1);
    }

    private static void ring() {
        SharedBorders x = T.told(Samples.TWO_LANDS);
        int[] corners = {8, 7, 6, 5, 4, 3, 3};
        int[] others = {6, 6, 6, 5, 4, 4, 3};
        for (int s = 0; s <= 6; s++) {
            T.due("ring(0, " + s + ", 0)", x.ring(0, s, 0), corners[s]);
            T.due("ring(1, " + s + ", 0)", x.ring(1, s, 0), others[s]);
            T.due("ring(0, " + s + ", 2)", x.ring(0, s, 2), 1);
        }
        T.due("ring(0, 0, 1)", x.ring(0, 0, 1), -3195);
        T.due("ring(0, 4, 1)", x.ring(0, 4, 1), -3000);
        T.due("ring(0, 5, 1)", x.ring(0, 5, 1), -1500);
        T.due("ring(1, 4, 1)", x.ring(1, 4, 1), -3000);
        T.due("ring(0, 7, 0)", x.ring(0, 7, 0), -1);
        T.due("ring(0, -1, 0)", x.ring(0, -1, 0), -1);
        T.due("ring(2, 0, 0)", x.ring(2, 0, 0), -1);
        T.due("ring(-1, 0, 0)", x.ring(-1, 0, 0), -1);
        T.due("ring(0, 0, 3)", x.ring(0, 0, 3), -1);
        T.due("ring(0, 0, -1)", x.ring(0, 0, -1), -1);
        T.due("AREA of the square", T.told(Samples.SQUARE).ring(0, 0, 1), 20000);
        // A point in common is no edge.
        x = T.told("point 0 0;point 9 0;point 0 9;point 5 9;point 9 5;ring 0 1 2;ring 2 3 4;");
        T.due("ring(0, 0, 2)", x.ring(0, 0, 2), 0);
        T.due("ring(0, 0, 2) of one ring told twice",
            T.told("point 0 0;point 9 0;point 0 9;ring 0 1 2;ring 0 1 2;").ring(0, 0, 2), 1);
    }

    private static void corners(SharedBorders x, int r, int s, int... due) {
        for (int i = 0; i < due.length; i++) {
            T.due("corner(" + r + ", " + s + ", " + i + ")", x.corner(r, s, i), due[i]);
        }
        T.due("corner behind the last", x.corner(r, s, due.length), -1);
        T.due("corner(-1)", x.corner(r, s, -1), -1);
    }

    private static void corner() {
        SharedBorders x = T.told(Samples.TWO_LANDS);
        corners(x, 0, 0, 0, 1, 2, 9, 6, 5, 4, 3);
        corners(x, 0, 2, 0, 2, 6, 5, 4, 3);
        corners(x, 0, 6, 2, 6, 3);
        corners(x, 1, 3, 3, 4, 6, 8, 7);
        corners(x, 1, 6, 3, 6, 8);
        T.due("corner(2, 0, 0)", x.corner(2, 0, 0), -1);
        T.due("corner(-1, 0, 0)", x.corner(-1, 0, 0), -1);
        T.due("corner(0, 7, 0)", x.corner(0, 7, 0), -1);
        T.due("corner(0, -1, 0)", x.corner(0, -1, 0), -1);
        corners(T.told(Samples.SQUARE), 0, 0, 2, 3, 0, 1);
    }

    private static void arcIs(SharedBorders x, int a, int last, int[] rings, int... points) {
        T.due("arc(" + a + ", 0)", x.arc(a, 0), points.length);
        T.due("arc(" + a + ", 1)", x.arc(a, 1), points[0]);
        T.due("arc(" + a + ", 2)", x.arc(a, 2), last);
        T.due("arc(" + a + ", 3)", x.arc(a, 3), rings.length);
        for (int i = 0; i < points.length; i++) {
            T.due("along(" + a + ", " + i + ", 0)", x.along(a, i, 0), points[i]);
        }
        T.due("along behind the last point", x.along(a, points.length, 0), -4);
        for (int i = 0; i < rings.length; i++) {
            T.due("along(" + a + ", " + i + ", 1)", x.along(a, i, 1), rings[i]);
        }
        T.due("along behind the last ring", x.along(a, rings.length, 1), -4);
    }

    private static void arcsOfTwoLands() {
        SharedBorders x = T.told(Samples.TWO_LANDS);
        arcIs(x, 0, 6, new int[] {0}, 3, 0, 1, 2, 9, 6);
        arcIs(x, 1, 3, new int[] {0, 1}, 6, 5, 4, 3);
        arcIs(x, 2, 3, new int[] {1}, 6, 8, 7, 3);
        T.due("rule(4)", x.rule(4), 3);
        x.pin(1, 1);
        arcIs(x, 0, 1, new int[] {0}, 3, 0, 1);
        arcIs(x, 1, 6, new int[] {0}, 1, 2, 9, 6);
        arcIs(x, 2, 3, new int[] {0, 1}, 6, 5, 4, 3);
        T.due("rule(4)", x.rule(4), 4);
    }

    private static void closedArcs() {
        SharedBorders x = T.told(Samples.SQUARE);
        arcIs(x, 0, 2, new int[] {0}, 2, 3, 0, 1);
        // From a node round to the same node: it is told at both ends.
        x.pin(0, 1);
        arcIs(x, 0, 0, new int[] {0}, 0, 1, 2, 3, 0);
        T.due("rule(4)", x.rule(4), 1);
        x.pin(3, 1);
        arcIs(x, 0, 3, new int[] {0}, 0, 1, 2, 3);
        arcIs(x, 1, 0, new int[] {0}, 3, 0);
        T.due("point(1, 4)", x.point(1, 4), 0);
        arcIs(T.told("point 0 0;point 9 0;point 0 9;ring 1 2 0;ring 1 0 2;"), 0, 1, new int[] {0, 1}, 1, 2, 0);
        // The widest ring, from a node to itself.
        x = T.told("point0 0;point9 0;point19 2;point25 8;point27 16;point26 25;point20 31;point12 33;"
            + "point4 28;point0 20;ring0 1 2 3 4 5 6 7 8 9;pin4;");
        arcIs(x, 0, 4, new int[] {0}, 4, 5, 6, 7, 8, 9, 0, 1, 2, 3, 4);
    }

    private static void wrongArcs() {
        SharedBorders x = T.told(Samples.TWO_LANDS);
        T.due("arc(3, 0)", x.arc(3, 0), -1);
        T.due("arc(-1, 0)", x.arc(-1, 0), -1);
        T.due("arc(0, 4)", x.arc(0, 4), -1);
        T.due("arc(0, -1)", x.arc(0, -1), -1);
        T.due("along(3, 0, 0)", x.along(3, 0, 0), -1);
        T.due("along(-1, 0, 0)", x.along(-1, 0, 0), -1);
        T.due("along(0, -1, 0)", x.along(0, -1, 0), -1);
        T.due("along(0, 0, 2)", x.along(0, 0, 2), -1);
        T.due("along(0, 0, -1)", x.along(0, 0, -1), -1);
        T.due("along(0, 99, 2)", x.along(0, 99, 2), -1);
        T.due("along(0, 2147483647, 0)", x.along(0, Integer.MAX_VALUE, 0), -4);
    }
}

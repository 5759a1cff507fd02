/** Promises 12 to 19: gone, left, edge, why, size, keep, limit, within. */
public final class StagesTest {
    private static final Checks T = new Checks("StagesTest");

    public static void main(String[] args) {
        gone();
        left();
        edge();
        why();
        otherPointsInTheWay();
        neighboursAlreadyAnEdge();
        size();
        keep();
        limit();
        limitStopsAtTheFirst();
        within();
        withinNests();
        T.finish();
    }

    private static void gone() {
        SharedBorders x = T.told(Samples.TWO_LANDS);
        for (int s = 1; s <= 6; s++) {
            T.due("gone(" + s + ")", x.gone(s), Samples.TWO_LANDS_GONE[s - 1]);
        }
        T.due("gone(0)", x.gone(0), -1);
        T.due("gone(-1)", x.gone(-1), -1);
        T.due("gone(7)", x.gone(7), -1);
        // Of several of least size that of the least number.
        T.due("gone(1) of a square", T.told(Samples.SQUARE).gone(1), 0);
        // A flat corner has size 0 and goes first.
        x = T.told("point 0 0;point 100 0;point 100 100;point 0 100;point 50 0;ring 0 4 1 2 3;");
        T.due("gone(1)", x.gone(1), 4);
        T.due("point(4, 6)", x.point(4, 6), 0);
    }

    private static void left() {
        SharedBorders x = T.told(Samples.TWO_LANDS + "point 100 3;");
        for (int s = 0; s <= 6; s++) {
            T.due("left(" + s + ")", x.left(s), 10 - s);
        }
        T.due("left(-1)", x.left(-1), -1);
        T.due("left(7)", x.left(7), -1);
    }

    private static void edge() {
        SharedBorders x = T.told(Samples.TWO_LANDS);
        T.due("edge(3, 4, 0)", x.edge(3, 4, 0), 2);
        T.due("edge(4, 3, 0)", x.edge(4, 3, 0), 2);
        T.due("edge(0, 3, 0)", x.edge(0, 3, 0), 1);
        T.due("edge(0, 2, 0)", x.edge(0, 2, 0), 0);
        T.due("edge(0, 2, 1)", x.edge(0, 2, 1), 0);
        T.due("edge(0, 2, 2)", x.edge(0, 2, 2), 1);
        T.due("edge(0, 1, 2)", x.edge(0, 1, 2), 0);
        T.due("edge(3, 6, 3)", x.edge(3, 6, 3), 0);
        T.due("edge(3, 6, 4)", x.edge(3, 6, 4), 2);
        T.due("edge(3, 3, 0)", x.edge(3, 3, 0), 0);
        T.due("edge(10, 0, 0)", x.edge(10, 0, 0), -1);
        T.due("edge(0, 10, 0)", x.edge(0, 10, 0), -1);
        T.due("edge(-1, 0, 0)", x.edge(-1, 0, 0), -1);
        T.due("edge(0, -1, 0)", x.edge(0, -1, 0), -1);
        T.due("edge(0, 1, 7)", x.edge(0, 1, 7), -1);
        T.due("edge(0, 1, -1)", x.edge(0, 1, -1), -1);
    }

    private static void why() {
        SharedBorders x = T.told(Samples.TWO_LANDS + "point 100 3;");
        T.due("why(0, 0)", x.why(0, 0), 0);
        T.due("why(3, 0) of a node", x.why(3, 0), 1);
        T.due("why(10, 0) of a point without edges", x.why(10, 0), 1);
        T.due("why(9, 0)", x.why(9, 0), 0);
        T.due("why(9, 1) of one gone", x.why(9, 1), 1);
        T.due("why(2, 4)", x.why(2, 4), 0);
        T.due("why(2, 5)", x.why(2, 5), 2);
        T.due("why(8, 6)", x.why(8, 6), 2);
        x.pin(2, 1);
        T.due("why(2, 4) pinned", x.why(2, 4), 1);
        T.due("why(11, 0)", x.why(11, 0), -1);
        T.due("why(-1, 0)", x.why(-1, 0), -1);
        T.due("why(0, -1)", x.why(0, -1), -1);
        T.due("why(0, 7)", x.why(0, 7), -1);
    }

    private static void otherPointsInTheWay() {
        // In the triangle of the point 0 alone.
        SharedBorders x = T.told(Samples.SQUARE + "point 10 10;");
        T.due("why(0, 0)", x.why(0, 0), 4);
        T.due("why(2, 0)", x.why(2, 0), 0);
        T.due("gone(1)", x.gone(1), 2);
        // On the border of all four triangles.
        x = T.told(Samples.SQUARE + "point 50 50;");
        for (int p = 0; p < 4; p++) {
            T.due("why(" + p + ", 0)", x.why(p, 0), 4);
        }
        T.due("rule(5)", x.rule(5), 0);
        // On the line of a triangle's border, but beyond it.
        x = T.told(Samples.SQUARE + "point 150 150;");
        T.due("why(1, 0)", x.why(1, 0), 0);
        // Flat, and one on its line beyond: that one does not lie in it.
        x = T.told("point 0 0;point 100 0;point 100 100;point 0 100;point 50 0;point 150 0;ring 0 4 1 2 3;");
        T.due("why(4, 0)", x.why(4, 0), 0);
        // One that is gone is in nobody's way: 4 dents the square and lies in the triangle of 2.
        x = T.told("point 0 0;point 100 0;point 100 100;point 0 100;point 51 49;ring 0 4 1 2 3;pin 1;");
        T.due("why(2, 0)", x.why(2, 0), 4);
        T.due("gone(1)", x.gone(1), 4);
        T.due("why(2, 1)", x.why(2, 1), 0);
    }

    private static void neighboursAlreadyAnEdge() {
        // The points 2 and 3 stand over one edge: both rings have three corners, too.
        SharedBorders x = T.told(Samples.TWO_OVER_AN_EDGE);
        T.due("why(2, 0)", x.why(2, 0), 2);
        T.due("why(3, 0)", x.why(3, 0), 2);
        // A ring round the first one: once 4 is gone, the neighbours of 3 are 0 and 1, which are an edge.
        x = T.told("point 0 0;point 100 0;point 50 20;point 0 90;point 90 80;ring 0 1 2;ring 0 1 4 3;");
        T.due("why(3, 0)", x.why(3, 0), 0);
        T.due("why(4, 0)", x.why(4, 0), 0);
        T.due("gone(1)", x.gone(1), 4);
        T.due("rule(5)", x.rule(5), 1);
        T.due("why(3, 1)", x.why(3, 1), 2);
    }

    private static void size() {
        SharedBorders x = T.told(Samples.TWO_LANDS + "point 100 3;");
        int[] first = {600, 100, 446, -4, 185, 165, -4, 1500, 1500, 60, -4};
        for (int p = 0; p < first.length; p++) {
            T.due("size(" + p + ", 0)", x.size(p, 0), first[p]);
        }
        T.due("size(2, 1)", x.size(2, 1), 900);
        T.due("size(9, 1)", x.size(9, 1), -4);
        T.due("size(4, 3)", x.size(4, 3), 200);
        T.due("size(11, 0)", x.size(11, 0), -1);
        T.due("size(-1, 0)", x.size(-1, 0), -1);
        T.due("size(0, -1)", x.size(0, -1), -1);
        T.due("size(0, 7)", x.size(0, 7), -1);
        x.pin(0, 1);
        T.due("size(0, 0) pinned", x.size(0, 0), -4);
    }

    private static void keep() {
        SharedBorders x = T.told(Samples.TWO_LANDS + "point 100 3;");
        T.due("keep(-1)", x.keep(-1), -1);
        T.due("keep(0)", x.keep(0), -4);
        T.due("keep(3)", x.keep(3), -4);
        T.due("keep(4)", x.keep(4), 6);
        T.due("keep(9)", x.keep(9), 1);
        T.due("keep(10)", x.keep(10), 0);
        T.due("keep(2147483647)", x.keep(Integer.MAX_VALUE), 0);
        T.due("keep(-2147483648)", x.keep(Integer.MIN_VALUE), -1);
        T.due("keep(0) without edges", T.told("point 1 1;").keep(0), 0);
    }

    private static void limit() {
        SharedBorders x = T.told(Samples.TWO_LANDS);
        int[] most = {0, 59, 60, 99, 100, 165, 199, 200, 1499, 1500, Integer.MAX_VALUE};
        int[] due = {0, 0, 1, 1, 2, 3, 3, 4, 4, 6, 6};
        for (int i = 0; i < most.length; i++) {
            T.due("limit(" + most[i] + ")", x.limit(most[i]), due[i]);
        }
        T.due("limit(-1)", x.limit(-1), -1);
        // One stage alone: x and y of its point are 2, of the line across they are 100 together.
        x = T.told("point 2 2;point 100 0;point 100 100;point 0 100;ring 0 1 2 3;pin 1;pin 2;pin 3;");
        T.due("rule(5)", x.rule(5), 1);
        T.due("point(0, 6)", x.point(0, 6), 9600);
        T.due("limit(9599)", x.limit(9599), 0);
        T.due("limit(9600)", x.limit(9600), 1);
    }

    /** Sizes may fall: when the point 2 is gone with 400, the point 1 goes with 200, not its 500. */
    private static void limitStopsAtTheFirst() {
        SharedBorders x = T.told("point 100 60;point 50 70;point 0 90;point 70 70;point 90 90;ring 0 1 2 3 4;");
        T.due("size(1, 0)", x.size(1, 0), 500);
        T.due("gone(1)", x.gone(1), 2);
        T.due("point(2, 6)", x.point(2, 6), 400);
        T.due("gone(2)", x.gone(2), 1);
        T.due("point(1, 6)", x.point(1, 6), 200);
        T.due("rule(5)", x.rule(5), 2);
        T.due("limit(200)", x.limit(200), 0);
        T.due("limit(399)", x.limit(399), 0);
        T.due("limit(400)", x.limit(400), 2);
    }

    private static void within() {
        SharedBorders x = T.told(Samples.TWO_LANDS + "point 20 30;");
        T.due("within(20, 30, 0)", x.within(20, 30, 0), 0);
        T.due("within(60, 30, 0)", x.within(60, 30, 0), 1);
        T.due("within(150, 150, 0)", x.within(150, 150, 0), -4);
        T.due("within(40, 10, 0)", x.within(40, 10, 0), -2);
        T.due("within(55, 10, 0)", x.within(55, 10, 0), -2);
        T.due("within(71, 10, 0)", x.within(71, 10, 0), -4);
        T.due("within(9, 40, 0)", x.within(9, 40, 0), 0);
        T.due("within(9, 40, 2)", x.within(9, 40, 2), -4);
        T.due("within(42, 25, 0)", x.within(42, 25, 0), 0);
        T.due("within(42, 25, 4)", x.within(42, 25, 4), 1);
        T.due("within(40, 30, 3)", x.within(40, 30, 3), 0);
        T.due("within(40, 30, 4)", x.within(40, 30, 4), -2);
        T.due("within(-1, 0, 0)", x.within(-1, 0, 0), -1);
        T.due("within(0, -1, 0)", x.within(0, -1, 0), -1);
        T.due("within(200, 0, 0)", x.within(200, 0, 0), -1);
        T.due("within(0, 200, 0)", x.within(0, 200, 0), -1);
        T.due("within(199, 199, 0)", x.within(199, 199, 0), -4);
        T.due("within(0, 0, -1)", x.within(0, 0, -1), -1);
        T.due("within(0, 0, 7)", x.within(0, 0, 7), -1);
    }

    private static void withinNests() {
        SharedBorders x = T.told(Samples.NEST);
        T.due("within(10, 20, 0)", x.within(10, 20, 0), 0);
        T.due("within(50, 45, 0)", x.within(50, 45, 0), 0);
        T.due("within(50, 40, 0) on the inner edge", x.within(50, 40, 0), -2);
        T.due("within(50, 0, 0)", x.within(50, 0, 0), -2);
        // On the height of corners.
        T.due("within(20, 40, 0)", x.within(20, 40, 0), 0);
        T.due("within(150, 100, 0)", x.within(150, 100, 0), -4);
    }
}

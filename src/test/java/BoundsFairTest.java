/**
 * The boundary cases of what is FAIR, told by a text and come to by move(): each clause with what
 * just breaks it and what just does not.
 */
public final class BoundsFairTest {
    private static final Checks T = new Checks("BoundsFairTest");

    public static void main(String[] args) {
        noTwoPointsAtOnePlace();
        noPointOnAnEdge();
        noPointOnASlantedEdge();
        noEdgeOntoAPoint();
        noTwoEdgesMeet();
        noTwoEdgesMeetInOneRing();
        edgesThatHardlyMeet();
        noEdgeOntoTheFirstAndTheLast();
        edgesMayMeetAtAPointThatBothEnd();
        edgesFromOnePointDoNotFallTogether();
        noEdgeInMoreThanTwoRings();
        noAreaIs0();
        areaBySign();
        theWholeWorld();
        T.finish();
    }

    private static void fair(String text) {
        SharedBorders x = new SharedBorders();
        T.isTrue("FAIR: " + text, Checks.tell(x, text) > 0);
        T.due("no FAULT: " + text, x.fault(), 0);
    }

    private static void notFair(String text) {
        T.refused(text, 6, text.length());
    }

    /** A POINT of what is told comes to a place, or is refused and stays. */
    private static void moves(String text, int p, int px, int py, boolean comes) {
        SharedBorders x = T.told(text);
        int oldX = x.point(p, 0);
        int oldY = x.point(p, 1);
        String call = text + " move(" + p + ", " + px + ", " + py + ")";
        T.due(call, x.move(p, px, py), comes ? 1 : -2);
        T.due(call + " x", x.point(p, 0), comes ? px : oldX);
        T.due(call + " y", x.point(p, 1), comes ? py : oldY);
    }

    /** "no two POINTS are at one place" */
    private static void noTwoPointsAtOnePlace() {
        notFair("point 5 5;point 5 5;");
        fair("point 5 5;point 5 6;");
        fair("point 5 5;point 6 5;");
        fair("point 5 6;point 6 5;");
        notFair("point 5 5;point 6 6;point 5 5;");
        notFair("point 0 0;point 9 0;point 0 9;point 0 0;ring 0 1 2;");
        notFair("point 0 0;point 9 0;point 0 9;point 0 9;ring 0 1 2;");
        String two = "point 5 5;point 9 9;";
        moves(two, 0, 9, 9, false);
        moves(two, 1, 5, 5, false);
        moves(two, 0, 9, 8, true);
        moves(two, 0, 8, 9, true);
        moves(two, 0, 5, 5, true);
        String ring = "point 0 0;point 9 0;point 0 9;point 50 50;ring 0 1 2;";
        moves(ring, 3, 0, 0, false);
        moves(ring, 3, 9, 0, false);
        moves(ring, 3, 0, 9, false);
        moves(ring, 0, 50, 50, false);
        moves(ring, 0, 9, 0, false);
    }

    /** "no POINT is on an EDGE that it does not end" */
    private static void noPointOnAnEdge() {
        String ring = "point 10 10;point 20 10;point 10 20;ring 0 1 2;";
        for (int px = 9; px <= 21; px++) {
            boolean on = px >= 10 && px <= 20;
            if (on) {
                notFair(ring + "point " + px + " 10;");
                notFair(ring + "point 10 " + px + ";");
            } else {
                fair(ring + "point " + px + " 10;");
                fair(ring + "point 10 " + px + ";");
            }
            moves(ring + "point 50 50;", 3, px, 10, !on);
            moves(ring + "point 50 50;", 3, 10, px, !on);
        }
        // Just beside it, on either side.
        for (int py : new int[] {9, 11}) {
            fair(ring + "point 15 " + py + ";");
            moves(ring + "point 50 50;", 3, 15, py, true);
        }
        // A CORNER of another RING, and of the same one.
        notFair(ring + "point 15 10;point 16 5;point 14 5;ring 3 4 5;");
        fair(ring + "point 15 9;point 16 5;point 14 5;ring 3 4 5;");
        notFair("point 10 10;point 20 10;point 20 20;point 15 10;point 10 20;ring 0 1 2 3 4;");
        fair("point 10 10;point 20 10;point 20 20;point 15 11;point 10 20;ring 0 1 2 3 4;");
    }

    /** The EDGE of 1 and 2 goes by 1 to the side and 2 up: one place alone is on it. */
    private static void noPointOnASlantedEdge() {
        String ring = "point 20 10;point 10 10;point 12 14;point 50 50;ring 0 1 2;";
        for (int px = 9; px <= 13; px++) {
            for (int py = 10; py <= 15; py++) {
                boolean onSlant = py - 10 == 2 * (px - 10) && py <= 14;
                boolean onFoot = py == 10 && px >= 10;
                boolean onTop = px == 12 && py == 14;
                moves(ring, 3, px, py, !onSlant && !onFoot && !onTop);
            }
        }
    }

    /** The same, if it is the EDGE that comes. */
    private static void noEdgeOntoAPoint() {
        String ring = "point 10 10;point 30 8;point 10 30;point 20 10;ring 0 1 2;";
        moves(ring, 1, 30, 10, false);
        moves(ring, 1, 30, 9, true);
        moves(ring, 1, 30, 11, true);
        moves(ring, 1, 20, 10, false);
        moves(ring, 1, 19, 10, true);
        moves(ring, 1, 21, 10, false);
        // Both EDGES of the one that comes, and a RING that goes the other way.
        moves("point 10 10;point 10 30;point 30 8;point 20 10;ring 0 1 2;", 2, 30, 10, false);
        moves("point 10 10;point 10 30;point 30 8;point 20 10;ring 2 1 0;", 2, 30, 10, false);
        moves("point 10 10;point 10 30;point 30 8;point 20 20;ring 2 1 0;", 2, 30, 10, false);
        moves("point 10 10;point 10 30;point 30 8;point 20 20;ring 2 1 0;", 2, 30, 11, true);
        // The EDGES of another RING do not come, but its CORNERS are POINTS.
        String two = ring + "point 100 100;point 102 104;point 120 100;ring 4 5 6;";
        moves(two, 4, 20, 10, false);
        moves(two, 4, 30, 8, false);
        moves(two, 4, 90, 90, true);
    }

    /** "no two EDGES meet but at a POINT that both end" */
    private static void noTwoEdgesMeet() {
        String ring = "point 10 10;point 30 10;point 30 30;point 10 30;ring 0 1 2 3;";
        // A RING that stands beside, and reaches up to, onto, over the EDGE at x 30.
        String beside = ring + "point 50 15;point 50 25;";
        fair(beside + "point 31 20;ring 4 5 6;");
        notFair(beside + "point 30 20;ring 4 5 6;");
        notFair(beside + "point 29 20;ring 4 5 6;");
        // All through, so that no end of an EDGE lies within the other RING.
        notFair(beside + "point 9 20;ring 4 5 6;");
        // Within: no EDGE meets.
        fair(ring + "point 15 15;point 25 15;point 20 25;ring 4 5 6;");
        String text = beside + "point 40 20;ring 4 5 6;";
        moves(text, 6, 31, 20, true);
        moves(text, 6, 30, 20, false);
        moves(text, 6, 29, 20, false);
        moves(text, 6, 9, 20, false);
        moves(text, 6, 0, 20, false);
        // The end of the EDGE that is met comes over the one that stands.
        moves(text, 1, 39, 10, true);
        moves(text, 1, 50, 20, false);
        moves(text, 2, 60, 11, true);
        moves(text, 2, 60, 20, false);
    }

    private static void noTwoEdgesMeetInOneRing() {
        fair("point 10 10;point 30 10;point 30 30;point 10 30;ring 0 1 2 3;");
        notFair("point 10 10;point 30 10;point 30 30;point 10 30;ring 0 2 1 3;");
        notFair("point 10 10;point 30 10;point 30 30;point 10 30;ring 0 1 3 2;");
        String five = "point 10 10;point 50 10;point 50 50;point 30 20;point 10 50;ring 0 1 2 3 4;";
        moves(five, 3, 30, 11, true);
        moves(five, 3, 30, 10, false);
        moves(five, 3, 30, 9, false);
        moves(five, 3, 50, 30, false);
        moves(five, 3, 51, 30, false);
    }

    /** The EDGES 0 1 and 2 3 meet, hardly: their ends lie as near as may be to the other one, without being on it. */
    private static void edgesThatHardlyMeet() {
        String across = "point 0 0;point 2 1;point 1 1;point 2 0;";
        String beside = "point 0 0;point 2 1;point 1 1;point 0 1;";
        for (String ring : new String[] {"0 1 2 3", "1 2 3 0", "2 3 0 1", "3 0 1 2", "3 2 1 0", "2 1 0 3", "1 0 3 2", "0 3 2 1"}) {
            notFair(across + "ring " + ring + ";");
            fair(beside + "ring " + ring + ";");
            moves(beside + "ring " + ring + ";", 3, 2, 0, false);
            moves(beside + "ring " + ring + ";", 3, 1, 2, true);
            // The same from the other side.
            notFair("point 9 9;point 7 8;point 8 8;point 7 9;ring " + ring + ";");
            notFair("point 0 9;point 2 8;point 1 8;point 2 9;ring " + ring + ";");
            notFair("point 9 0;point 7 1;point 8 1;point 7 0;ring " + ring + ";");
        }
    }

    /** An EDGE comes onto the POINT 0, and onto the last of 24. */
    private static void noEdgeOntoTheFirstAndTheLast() {
        String ring = "ring 1 2 3;point 30 8;point 10 30;point 10 10;";
        moves("point 20 10;" + ring, 1, 30, 10, false);
        moves("point 20 10;" + ring, 1, 30, 9, true);
        notFair("point 20 10;" + ring.replace("30 8", "30 10"));
        StringBuilder text = new StringBuilder("point30 8;point10 30;point10 10;ring0 1 2;");
        for (int i = 3; i < 23; i++) {
            text.append("point99 ").append(i).append(';');
        }
        moves(text + "point20 10;", 0, 30, 10, false);
        moves(text + "point20 10;", 0, 30, 9, true);
        moves(text + "point99 99;", 23, 20, 9, false);
        moves(text + "point99 99;", 23, 30, 8, false);
        moves(text + "point99 99;", 23, 20, 8, true);
    }

    private static void edgesMayMeetAtAPointThatBothEnd() {
        String ring = "point 10 10;point 30 10;point 10 30;";
        fair(ring + "point 40 30;point 40 5;ring 0 1 2;ring 1 3 4;");
        // All of the second RING within the first, but the POINT that they share.
        fair(ring + "point 15 12;point 12 15;ring 0 1 2;ring 0 3 4;");
        notFair(ring + "point 15 10;point 12 15;ring 0 1 2;ring 0 3 4;");
        notFair(ring + "point 15 9;point 12 15;ring 0 1 2;ring 0 3 4;");
        // Two RINGS that share two POINTS, but no EDGE.
        fair("point 10 10;point 30 10;point 20 12;point 20 40;point 20 9;ring 0 3 1 2;ring 0 1 4;");
        fair("point 10 10;point 30 10;point 20 12;point 20 40;point 20 9;point 20 5;ring 0 3 1 2;ring 0 4 1 5;");
    }

    private static void edgesFromOnePointDoNotFallTogether() {
        String ring = "point 10 10;point 30 10;point 10 30;";
        notFair(ring + "point 20 10;point 20 5;ring 0 1 2;ring 0 3 4;");
        notFair(ring + "point 40 10;point 40 5;ring 0 1 2;ring 0 3 4;");
        fair(ring + "point 5 10;point 5 5;ring 0 1 2;ring 0 3 4;");
        fair(ring + "point 40 9;point 40 5;ring 0 1 2;ring 0 3 4;");
        String two = ring + "point 40 9;point 40 5;ring 0 1 2;ring 0 3 4;";
        moves(two, 3, 40, 10, false);
        moves(two, 3, 40, 11, false);
        moves(two, 3, 29, 10, false);
        moves(two, 3, 29, 9, true);
    }

    /** "no EDGE is in more than two RINGS" */
    private static void noEdgeInMoreThanTwoRings() {
        String fan = "point 0 0;point 90 0;point 45 10;point 45 30;point 45 50;";
        fair(fan + "ring 0 1 2;");
        fair(fan + "ring 0 1 2;ring 0 1 3;");
        fair(fan + "ring 0 1 2;ring 1 0 3;");
        notFair(fan + "ring 0 1 2;ring 0 1 3;ring 0 1 4;");
        notFair(fan + "ring 0 1 2;ring 3 1 0;ring 0 4 1;");
        notFair(fan + "ring 0 1 2;ring 1 2 0;ring 2 0 1;");
        // The EDGE that the last CORNER leads to the first.
        notFair(fan + "ring 1 2 0;ring 0 3 1;ring 1 4 0;");
        fair(fan + "ring 1 2 0;ring 0 3 1;ring 0 4 1 3;");
    }

    /** "no AREA is 0" (nor is any: what has AREA 0 has CORNERS on its EDGES, too) */
    private static void noAreaIs0() {
        notFair("point 0 0;point 5 5;point 9 9;ring 0 1 2;");
        notFair("point 5 5;point 9 9;point 0 0;ring 0 1 2;");
        notFair("point 5 0;point 5 9;point 5 4;ring 0 1 2;");
        fair("point 0 0;point 5 5;point 9 8;ring 0 1 2;");
        notFair("point 0 0;point 10 0;point 10 10;point 0 10;ring 0 2 1 3;");
        moves("point 0 0;point 5 5;point 9 8;ring 0 1 2;", 2, 9, 9, false);
        moves("point 0 0;point 5 5;point 9 8;ring 0 1 2;", 2, 9, 10, true);
        // A flat CORNER makes no RING flat.
        fair("point 0 0;point 5 0;point 9 0;point 5 5;ring 0 1 2 3;");
    }

    /** "of all CORNERS by order x times the next one's y less the next one's x times y, summed" */
    private static void areaBySign() {
        T.due("least AREA", T.told("point 0 0;point 1 0;point 0 1;ring 0 1 2;").ring(0, 0, 1), 1);
        T.due("the other way", T.told("point 0 0;point 1 0;point 0 1;ring 2 1 0;").ring(0, 0, 1), -1);
        T.due("from another CORNER", T.told("point 0 0;point 1 0;point 0 1;ring 1 2 0;").ring(0, 0, 1), 1);
        T.due("far from 0 0", T.told("point 198 198;point 199 198;point 198 199;ring 0 1 2;").ring(0, 0, 1), 1);
        SharedBorders x = T.told("point 0 0;point 5 5;point 9 8;ring 0 1 2;");
        T.due("AREA", x.ring(0, 0, 1), -5);
        x.move(2, 9, 10);
        T.due("AREA turned over", x.ring(0, 0, 1), 5);
    }

    /** "x, y (0 to 199)" */
    private static void theWholeWorld() {
        SharedBorders x = T.told(Samples.WORLD);
        T.due("greatest AREA", x.ring(0, 0, 1), 2 * 199 * 199);
        T.due("the other way", T.told(Samples.WORLD.replace("ring 0 1 2 3", "ring 3 2 1 0")).ring(0, 0, 1), -2 * 199 * 199);
        T.due("greatest SIZE", x.size(0, 0), 199 * 199);
        notFair(Samples.WORLD + "point 0 100;");
        notFair(Samples.WORLD + "point 199 100;");
        notFair(Samples.WORLD + "point 100 199;");
        fair(Samples.WORLD + "point 1 198;");
        // EDGES as long as may be that cross, and that hardly do not.
        fair("point 0 0;point 199 198;point 199 0;point 1 1;ring 0 1 2;");
        fair("point 0 0;point 199 198;point 199 0;point 1 1;point 100 100;point 1 9;ring 0 1 2;ring 3 4 5;");
        notFair("point 0 0;point 199 198;point 199 0;point 1 1;point 198 197;point 1 9;ring 0 1 2;ring 3 4 5;");
    }
}

/** The boundary cases of promises 20 to 22: move, pin, shake. */
public final class BoundsChangesTest {
    private static final Checks T = new Checks("BoundsChangesTest");
    private static final int MIN = Integer.MIN_VALUE;
    private static final int MAX = Integer.MAX_VALUE;
    private static final int[] FAR = {MIN, MIN + 1, -2, -1, MAX - 1, MAX};

    public static void main(String[] args) {
        moveOfWhich();
        moveToTheRimOfTheWorld();
        moveToWhereItIs();
        moveRefusedByBadFirst();
        moveLeavesTheRest();
        moveMakesStagesAnew();
        pinOfWhich();
        pinToldTwice();
        pinOfTheLast();
        pinIsFreeOfMoves();
        shakeHowOften();
        shakeWithoutPoints();
        shakeWrapsAround();
        shakeByEverySeed();
        shakeAtTheRim();
        shakeOntoAnother();
        shakeOneAfterAnother();
        T.finish();
    }

    private static void at(String why, SharedBorders x, int p, int px, int py) {
        T.due(why + " x of " + p, x.point(p, 0), px);
        T.due(why + " y of " + p, x.point(p, 1), py);
    }

    /** "BAD" (there is no such POINT) */
    private static void moveOfWhich() {
        SharedBorders x = T.told(Samples.column(24));
        for (int p : FAR) {
            T.due("P20 move(" + p + ", 9, 9)", x.move(p, 9, 9), -1);
        }
        T.due("P20 move(24, 9, 9)", x.move(24, 9, 9), -1);
        T.due("P29 none came", x.count(3), 0);
        T.due("P20 move(23, 9, 9)", x.move(23, 9, 9), 1);
        at("P20", x, 23, 9, 9);
        T.due("P20 move(0, 9, 8)", x.move(0, 9, 8), 1);
        at("P20", x, 0, 9, 8);
        T.due("P20 no POINTS", new SharedBorders().move(0, 9, 9), -1);
        T.due("P20 one POINT", T.told("point 1 1;").move(1, 9, 9), -1);
    }

    /** "x, y (0 to 199)" */
    private static void moveToTheRimOfTheWorld() {
        SharedBorders x = T.told("point 5 6;");
        for (int n : FAR) {
            T.due("P20 move(0, " + n + ", 9)", x.move(0, n, 9), -1);
            T.due("P20 move(0, 9, " + n + ")", x.move(0, 9, n), -1);
        }
        T.due("P20 move(0, 200, 9)", x.move(0, 200, 9), -1);
        T.due("P20 move(0, 9, 200)", x.move(0, 9, 200), -1);
        T.due("P20 move(0, 200, 200)", x.move(0, 200, 200), -1);
        at("P20 it stayed", x, 0, 5, 6);
        int[][] rim = {{0, 0}, {199, 0}, {0, 199}, {199, 199}};
        for (int[] place : rim) {
            T.due("P20 move to the rim", x.move(0, place[0], place[1]), 1);
            at("P20", x, 0, place[0], place[1]);
        }
    }

    /** It is no other POINT, and does not stand in its own way. */
    private static void moveToWhereItIs() {
        SharedBorders x = T.told(Samples.TWO_LANDS + "point 100 100;");
        for (int p = 0; p <= 10; p++) {
            T.due("P20 to where it is", x.move(p, x.point(p, 0), x.point(p, 1)), 1);
        }
        T.due("P12 as it was", x.gone(1), 9);
    }

    /** "BAD; STATE: all would not be FAIR"; "the first that fits" */
    private static void moveRefusedByBadFirst() {
        SharedBorders x = T.told("point 199 199;point 0 0;");
        T.due("P20 STATE", x.move(0, 0, 0), -2);
        T.due("P20 BAD: no such POINT, that place is taken", x.move(2, 0, 0), -1);
        T.due("P20 BAD: no such place", x.move(0, 0, -1), -1);
        T.due("P20 STATE the other way", x.move(1, 199, 199), -2);
        at("P20 it stayed", x, 0, 199, 199);
        at("P20 it stayed", x, 1, 0, 0);
    }

    private static void moveLeavesTheRest() {
        SharedBorders x = T.told(Samples.SQUARE + "pin 1;");
        x.store(0);
        x.sheet(0, 0, 4);
        Checks.feed(x, "pin");
        T.due("P20 move", x.move(0, 5, 5), 1);
        at("P20", x, 1, 100, 0);
        at("P20", x, 2, 100, 100);
        at("P20", x, 3, 0, 100);
        T.due("P20 PINNED as it was", x.point(1, 7), 1);
        T.due("P20 RING as it was", x.corner(0, 0, 0), 2);
        T.due("P20 IMAGES are there", x.count(0), 1);
        T.due("P20 the tape is there", x.count(1), 3);
        T.due("P20 the SHEET is there", x.count(2), 4);
    }

    private static void moveMakesStagesAnew() {
        SharedBorders x = T.told("point 0 0;point 100 0;point 100 100;point 0 100;point 50 1;ring 0 4 1 2 3;");
        T.due("P12 gone(1)", x.gone(1), 4);
        T.due("P7 its SIZE", x.point(4, 6), 100);
        T.due("P20 move", x.move(4, 50, 0), 1);
        T.due("P7 its SIZE", x.point(4, 6), 0);
        T.due("P8 AREA", x.ring(0, 0, 1), 20000);
        T.due("P20 move", x.move(4, 50, 99), 1);
        T.due("P12 another goes first", x.gone(1), 0);
        T.due("P7 its SIZE", x.point(0, 6), 5000);
        T.due("P20 a refused one", x.move(4, 50, 100), -2);
        T.due("P12 as it was", x.gone(1), 0);
        T.due("P8 AREA as it was", x.ring(0, 0, 1), 20000 - 100 * 99);
    }

    /** "A POINT is PINNED (on 1) or not (0) .. BAD." */
    private static void pinOfWhich() {
        SharedBorders x = T.told(Samples.column(24));
        for (int n : FAR) {
            T.due("P21 pin(" + n + ", 1)", x.pin(n, 1), -1);
            T.due("P21 pin(0, " + n + ")", x.pin(0, n), -1);
        }
        T.due("P21 pin(24, 1)", x.pin(24, 1), -1);
        T.due("P21 pin(24, 0)", x.pin(24, 0), -1);
        T.due("P21 pin(0, 2)", x.pin(0, 2), -1);
        T.due("P6 none is PINNED", x.rule(7), 0);
        T.due("P21 pin(23, 1)", x.pin(23, 1), 0);
        T.due("P21 pin(23, 2)", x.pin(23, 2), -1);
        T.due("P21 pin(23, -1)", x.pin(23, -1), -1);
        T.due("P6 it is PINNED still", x.rule(7), 1);
        T.due("P21 pin(23, 0)", x.pin(23, 0), 1);
        T.due("P21 no POINTS", new SharedBorders().pin(0, 1), -1);
    }

    /** "whether it was (1, 0)"; "pin: a POINT is PINNED (or is already)" */
    private static void pinToldTwice() {
        SharedBorders x = T.told("point 1 1;point 2 2;pin 1;pin 1;");
        T.due("P21 not PINNED before", x.pin(0, 0), 0);
        T.due("P21 not PINNED before", x.pin(0, 1), 0);
        T.due("P21 PINNED before", x.pin(0, 1), 1);
        T.due("P21 PINNED before", x.pin(0, 0), 1);
        T.due("P21 not PINNED before", x.pin(0, 0), 0);
        T.due("P21 by the text", x.pin(1, 0), 1);
        T.due("P6 PINNED", x.rule(7), 0);
    }

    /** The last one that may go is PINNED: no STAGE stays; set free: it is back. */
    private static void pinOfTheLast() {
        SharedBorders x = T.told(Samples.SQUARE + "pin 1;pin 2;pin 3;");
        T.due("P6 one STAGE", x.rule(5), 1);
        T.due("P12 gone(1)", x.gone(1), 0);
        T.due("P21 pin(0, 1)", x.pin(0, 1), 0);
        T.due("P6 no STAGE", x.rule(5), 0);
        T.due("P12 gone(1)", x.gone(1), -1);
        T.due("P7 its STAGE", x.point(0, 5), -4);
        T.due("P6 four ARCS", x.rule(4), 4);
        T.due("P21 pin(0, 0)", x.pin(0, 0), 1);
        T.due("P12 gone(1)", x.gone(1), 0);
        T.due("P6 three ARCS", x.rule(4), 3);
    }

    private static void pinIsFreeOfMoves() {
        SharedBorders x = T.told("point 1 1;pin 0;");
        T.due("P20 a PINNED one moves", x.move(0, 3, 3), 1);
        T.due("P22 and is shaken", x.shake(1, 1), 1);
        at("P22", x, 0, 2, 1);
        T.due("P7 PINNED still", x.point(0, 7), 1);
    }

    /** "n times (1 to 40) .. BAD" */
    private static void shakeHowOften() {
        SharedBorders x = T.told("point 100 100;");
        for (int n : FAR) {
            T.due("P22 shake(1, " + n + ")", x.shake(1, n), -1);
        }
        T.due("P22 shake(1, 0)", x.shake(1, 0), -1);
        T.due("P22 shake(1, 41)", x.shake(1, 41), -1);
        at("P22 it stayed", x, 0, 100, 100);
        T.due("P22 shake(1, 1)", x.shake(1, 1), 1);
        T.due("P22 shake(1, 40)", x.shake(1, 40), 40);
    }

    /** "STATE: there are no POINTS"; "the first that fits" */
    private static void shakeWithoutPoints() {
        SharedBorders x = new SharedBorders();
        T.due("P22 shake(1, 1)", x.shake(1, 1), -2);
        T.due("P22 shake(1, 40)", x.shake(1, 40), -2);
        T.due("P22 BAD first", x.shake(1, 0), -1);
        T.due("P22 BAD first", x.shake(1, 41), -1);
        Checks.tell(x, "point 5 5;");
        T.due("P22 now there is one", x.shake(1, 1), 1);
        x.text();
        T.due("P22 and now none", x.shake(1, 1), -2);
    }

    /** "the seed becomes seed times 1103515245 and 12345; bits 16 to 30 of it are got" */
    private static void shakeWrapsAround() {
        // 0 becomes 12345: 0 is got.
        SharedBorders x = T.told("point 7 9;");
        T.due("P22 shake(0, 1)", x.shake(0, 1), 1);
        at("P22 seed 0", x, 0, 5, 7);
        // 2 becomes 2207042835, the highest bit of which is not got: 908, by 32 28, by 256 3.
        x = T.told("point 7 9;");
        T.due("P22 shake(2, 1)", x.shake(2, 1), 1);
        at("P22 seed 2", x, 0, 8, 10);
        // -1 becomes -1103502900, that is 3191464396 of 32 bits: 15929 is got, by 32 497, by 256 62.
        x = T.told("point 7 9;");
        T.due("P22 shake(-1, 1)", x.shake(-1, 1), 1);
        at("P22 seed -1", x, 0, 7, 9);
    }

    /** The same, by whole numbers that do not wrap, for a POINT that nothing stands in the way of. */
    private static void shakeByEverySeed() {
        int[] seeds = {0, 1, 2, 3, -1, -2, 12345, 65535, 65536, 1 << 30, 1 << 31, MAX, MIN + 1, 1103515245, -1103515245};
        for (int seed : seeds) {
            for (int n : new int[] {1, 2, 39, 40}) {
                SharedBorders x = T.told("point 100 100;");
                java.math.BigInteger drawn = java.math.BigInteger.valueOf(seed);
                int px = 100;
                int py = 100;
                for (int i = 0; i < n; i++) {
                    drawn = drawn.multiply(java.math.BigInteger.valueOf(1103515245)).add(java.math.BigInteger.valueOf(12345));
                    int got = 0;
                    for (int bit = 30; bit >= 16; bit--) {
                        got = 2 * got + (drawn.testBit(bit) ? 1 : 0);
                    }
                    px += got / 32 % 5 - 2;
                    py += got / 256 % 5 - 2;
                }
                T.due("P22 shake(" + seed + ", " + n + ")", x.shake(seed, n), n);
                at("P22 shake(" + seed + ", " + n + ")", x, 0, px, py);
            }
        }
    }

    /** "as by move(), if it may: how many did" */
    private static void shakeAtTheRim() {
        // Seed 0: by x and by y 2 back.
        int[][] from = {{2, 2}, {1, 2}, {2, 1}, {0, 0}};
        int[] came = {1, 0, 0, 0};
        for (int i = 0; i < from.length; i++) {
            SharedBorders x = T.told("point " + from[i][0] + " " + from[i][1] + ";");
            T.due("P22 at the rim", x.shake(0, 1), came[i]);
            at("P22 at the rim", x, 0, from[i][0] - 2 * came[i], from[i][1] - 2 * came[i]);
        }
        // Seed 2: by x and by y 1 further.
        int[][] high = {{198, 198}, {199, 198}, {198, 199}, {199, 199}};
        for (int i = 0; i < high.length; i++) {
            SharedBorders x = T.told("point " + high[i][0] + " " + high[i][1] + ";");
            T.due("P22 at the rim", x.shake(2, 1), came[i]);
            at("P22 at the rim", x, 0, high[i][0] + came[i], high[i][1] + came[i]);
        }
    }

    private static void shakeOntoAnother() {
        // Seed 0: the POINT 0 comes by -2 -2, where another is, or an EDGE.
        SharedBorders x = T.told("point 7 9;point 5 7;");
        T.due("P22 onto a POINT", x.shake(0, 1), 0);
        at("P22 it stayed", x, 0, 7, 9);
        x = T.told("point 7 9;point 5 8;");
        T.due("P22 beside a POINT", x.shake(0, 1), 1);
        x = T.told("point 7 9;point 0 7;point 60 7;point 60 90;ring 1 2 3;");
        T.due("P22 onto an EDGE", x.shake(0, 1), 0);
        at("P22 it stayed", x, 0, 7, 9);
        // By 0 0: it comes to where it is.
        x = T.told("point 7 9;");
        T.due("P22 to where it is", x.shake(-1, 1), 1);
        at("P22 to where it is", x, 0, 7, 9);
    }

    /** "the POINT got modulo POINTS": of the seed 1 are got 16838, 5758, 10113; one behind another. */
    private static void shakeOneAfterAnother() {
        // 16838, 5758, 10113 modulo 24 are 14, 22, 9; they come by -1 -2, by 2 0, by -1 2.
        SharedBorders x = T.told(Samples.column(24).replace("point0 ", "point5 "));
        T.due("P22 shake(1, 3)", x.shake(1, 3), 3);
        at("P22", x, 14, 4, 12);
        at("P22", x, 22, 7, 22);
        at("P22", x, 9, 4, 11);
        T.due("P29 the others stayed", x.count(3), 24 * 5 - 1 + 2 - 1);
        T.due("P29 the others stayed", x.count(4), 276 - 2 + 0 + 2);
        // One that is refused does not end it.
        x = T.told(Samples.column(24));
        T.due("P22 shake(1, 3) at the rim", x.shake(1, 3), 1);
        at("P22", x, 14, 0, 14);
        at("P22", x, 22, 2, 22);
        at("P22", x, 9, 0, 9);
    }
}

/** Promises 20 to 22: move, pin, shake. */
public final class ChangesTest {
    private static final Checks T = new Checks("ChangesTest");

    public static void main(String[] args) {
        move();
        movesThatAreRefused();
        pin();
        shake();
        shakeThatIsRefused();
        T.finish();
    }

    private static void at(SharedBorders x, int p, int px, int py) {
        T.due("point(" + p + ", 0)", x.point(p, 0), px);
        T.due("point(" + p + ", 1)", x.point(p, 1), py);
    }

    private static void move() {
        SharedBorders x = T.told(Samples.TWO_LANDS);
        T.due("move(9, 25, 70)", x.move(9, 25, 70), 1);
        at(x, 9, 25, 70);
        T.due("size(9, 0)", x.size(9, 0), 300);
        T.due("gone(1)", x.gone(1), 1);
        T.due("move to where it is", x.move(9, 25, 70), 1);
        T.due("move(9, 50, 30)", x.move(9, 50, 30), -2);
        T.due("move(8, 199, 199)", x.move(8, 199, 199), 1);
        T.due("move(0, 0, 0)", x.move(0, 0, 0), 1);
        T.due("move(-1, 1, 1)", x.move(-1, 1, 1), -1);
        T.due("move(10, 1, 1)", x.move(10, 1, 1), -1);
        T.due("move(0, -1, 1)", x.move(0, -1, 1), -1);
        T.due("move(0, 200, 1)", x.move(0, 200, 1), -1);
        T.due("move(0, 1, -1)", x.move(0, 1, -1), -1);
        T.due("move(0, 1, 200)", x.move(0, 1, 200), -1);
        at(x, 0, 0, 0);
        T.due("move(0, 1, 1) on a new object", new SharedBorders().move(0, 1, 1), -1);
    }

    private static void movesThatAreRefused() {
        SharedBorders x = T.told(Samples.SQUARE + "point 150 50;");
        x.store(0);
        T.due("onto another point", x.move(4, 100, 100), -2);
        T.due("onto an edge", x.move(4, 50, 100), -2);
        T.due("an edge onto a point", x.move(1, 200 - 1, 0), 1);
        T.due("an edge onto the point 4", x.move(2, 101, 100), -2);
        T.due("back", x.back(0), 5);
        SharedBorders y = T.told("point 150 50;point 100 0;point 100 100;point 0 50;ring 1 2 3;");
        T.due("an edge beside the point 0", y.move(1, 199, 0), 1);
        T.due("an edge onto the point 0", y.move(2, 101, 100), -2);
        T.due("an edge across another", x.move(0, 110, 50), -2);
        T.due("flat", T.told("point 0 0;point 9 0;point 0 9;ring 0 1 2;").move(2, 18, 0), -2);
        at(x, 0, 0, 0);
        at(x, 4, 150, 50);
        T.due("into the ring", x.move(4, 50, 51), 1);
        // A ring may turn over by a move.
        x = T.told("point 0 50;point 90 50;point 50 0;ring 0 1 2;");
        T.due("AREA", x.ring(0, 0, 1), -4500);
        T.due("over", x.move(2, 50, 100), 1);
        T.due("AREA", x.ring(0, 0, 1), 4500);
    }

    private static void pin() {
        SharedBorders x = T.told(Samples.TWO_LANDS + "pin 2;");
        T.due("pin(9, 1)", x.pin(9, 1), 0);
        T.due("pin(9, 1) again", x.pin(9, 1), 1);
        T.due("rule(7)", x.rule(7), 2);
        T.due("gone(1)", x.gone(1), 1);
        T.due("point(9, 7)", x.point(9, 7), 1);
        T.due("pin(2, 0)", x.pin(2, 0), 1);
        T.due("pin(2, 0) again", x.pin(2, 0), 0);
        T.due("pin(9, 0)", x.pin(9, 0), 1);
        T.due("gone(1)", x.gone(1), 9);
        T.due("pin(0, 2)", x.pin(0, 2), -1);
        T.due("pin(0, -1)", x.pin(0, -1), -1);
        T.due("pin(10, 1)", x.pin(10, 1), -1);
        T.due("pin(-1, 1)", x.pin(-1, 1), -1);
        T.due("rule(7)", x.rule(7), 0);
        // No stage stays when all are pinned.
        x = T.told(Samples.SQUARE);
        T.due("rule(5)", x.rule(5), 1);
        for (int p = 0; p < 4; p++) {
            x.pin(p, 1);
        }
        T.due("rule(5)", x.rule(5), 0);
        T.due("left(1)", x.left(1), -1);
        T.due("a pinned point is moved", T.told("point 1 1;pin 0;").move(0, 2, 2), 1);
    }

    /** Of the seed 1 are got 16838, 5758, 10113, as by rand() of old. */
    private static void shake() {
        SharedBorders x = T.told("point 7 9;");
        T.due("shake(1, 1)", x.shake(1, 1), 1);
        at(x, 0, 6, 7);
        x = T.told("point 7 9;");
        T.due("shake(1, 2)", x.shake(1, 2), 2);
        at(x, 0, 8, 7);
        x = T.told("point 7 9;");
        T.due("shake(1, 3)", x.shake(1, 3), 3);
        at(x, 0, 7, 9);
        // 16838 modulo 3 is 2, 5758 modulo 3 is 1.
        x = T.told("point 7 9;point 50 50;point 90 90;");
        T.due("shake(1, 2)", x.shake(1, 2), 2);
        at(x, 0, 7, 9);
        at(x, 1, 52, 50);
        at(x, 2, 89, 88);
        // The stages follow: 16838 modulo 4 is 2, which comes to 99, 98.
        x = T.told(Samples.SQUARE);
        T.due("gone(1)", x.gone(1), 0);
        T.due("shake(1, 1)", x.shake(1, 1), 1);
        at(x, 2, 99, 98);
        T.due("gone(1)", x.gone(1), 2);
        T.due("point(2, 6)", x.point(2, 6), 9700);
    }

    private static void shakeThatIsRefused() {
        SharedBorders x = T.told("point 0 0;");
        T.due("shake(1, 1)", x.shake(1, 1), 0);
        at(x, 0, 0, 0);
        T.due("shake(1, 0)", x.shake(1, 0), -1);
        T.due("shake(1, 41)", x.shake(1, 41), -1);
        T.due("shake(1, -1)", x.shake(1, -1), -1);
        T.isTrue("shake(-2147483648, 40)", x.shake(Integer.MIN_VALUE, 40) >= 0);
        x = new SharedBorders();
        T.due("shake(1, 1) of nothing", x.shake(1, 1), -2);
        T.due("shake(1, 0) of nothing", x.shake(1, 0), -1);
    }
}

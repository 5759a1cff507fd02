/** Promises 1 to 5: a new object, feed, end, text, fault. */
public final class TextTest {
    private static final Checks T = new Checks("TextTest");

    public static void main(String[] args) {
        aNewObject();
        feed();
        end();
        takenTexts();
        faultsOfTokens();
        faultsOfNumbersAndCorners();
        faultsOfTooMany();
        faultsBehindAll();
        fairness();
        T.finish();
    }

    private static void aNewObject() {
        SharedBorders x = new SharedBorders();
        for (int what = 0; what < 8; what++) {
            T.due("rule(" + what + ")", x.rule(what), 0);
        }
        for (int k = 0; k < 4; k++) {
            T.due("lay(" + k + ", 0, 0)", x.lay(k, 0, 0), -11);
        }
        T.due("fault()", x.fault(), 0);
        T.due("torn()", x.torn(), 0);
        T.due("count(0)", x.count(0), 0);
        T.due("count(1)", x.count(1), 0);
        T.due("count(2)", x.count(2), -4);
        T.due("point(0, 0)", x.point(0, 0), -1);
        T.due("arc(0, 0)", x.arc(0, 0), -1);
        T.due("gone(1)", x.gone(1), -1);
        T.due("left(0)", x.left(0), 0);
        T.due("within(0, 0, 0)", x.within(0, 0, 0), -4);
        T.due("within(0, 0, 1)", x.within(0, 0, 1), -1);
    }

    private static void feed() {
        SharedBorders x = new SharedBorders();
        T.due("feed(-1)", x.feed(-1), -1);
        T.due("feed(128)", x.feed(128), -1);
        T.due("feed(0)", x.feed(0), 1);
        T.due("feed(127)", x.feed(127), 2);
        for (int n = 3; n <= 320; n++) {
            T.due("feed(32) as " + n + "th", x.feed(32), n);
        }
        T.due("feed(32) as 321st", x.feed(32), -3);
        T.due("feed(128) as 321st", x.feed(128), -1);
        T.due("count(1)", x.count(1), 320);
    }

    private static void end() {
        SharedBorders x = new SharedBorders();
        T.due("end(0)", x.end(0), 0);
        T.due("end(1)", x.end(1), -1);
        Checks.feed(x, "point 1 2;junk");
        T.due("end(-1)", x.end(-1), -1);
        T.due("end(15)", x.end(15), -1);
        T.due("end(14)", x.end(14), 14);
        T.due("end(10)", x.end(10), 14);
        T.due("count(1)", x.count(1), 10);
        T.due("text()", x.text(), 1);
        T.due("count(3)", x.count(3), 1);
        T.due("end(0) behind text()", x.end(0), 0);
    }

    private static void takenTexts() {
        SharedBorders x = T.told("point 7 9;");
        x.store(0);
        x.store(1);
        T.due("text() of nothing", x.text(), 0);
        T.due("rule(0)", x.rule(0), 0);
        T.due("count(0)", x.count(0), 0);
        T.due("text() of blanks", Checks.tell(x, "   "), 0);
        T.due("text() of two lands", Checks.tell(x, Samples.TWO_LANDS), 12);
        T.due("rule(0)", x.rule(0), 10);
        T.due("text() without blanks", Checks.tell(x, "point0 199;point199 0;pin1;pin1;"), 4);
        T.due("rule(0)", x.rule(0), 2);
        T.due("rule(1)", x.rule(1), 0);
        T.due("rule(7)", x.rule(7), 1);
        T.due("text() with many blanks", Checks.tell(x, "  point  007   8 ;  pin 0 ; "), 2);
        T.due("point(0, 0)", x.point(0, 0), 7);
        T.due("point(0, 1)", x.point(0, 1), 8);
        T.due("text() that tells points last", Checks.tell(x, "pin 0;ring 0 1 2;point 0 0;point 5 0;point 0 5;"), 5);
        T.due("rule(1)", x.rule(1), 1);
        T.due("text() refused", Checks.tell(x, "x"), -10);
        T.due("fault()", x.fault(), 2);
        T.due("text() taken", Checks.tell(x, ""), 0);
        T.due("fault()", x.fault(), 0);
    }

    private static void faultsOfTokens() {
        T.refused("A", 1, 0);
        T.refused("  \n", 1, 2);
        T.refused("point 1,2;", 1, 7);
        T.refused("point 1 -2;", 1, 8);
        T.refused("1234", 1, 0);
        T.refused("point 1000 1;", 1, 6);
        T.refused("point 1 0001;", 1, 8);
        T.refused("ring 0 1 2 3333;", 1, 11);
        // A token is read when the one before has been taken.
        T.refused("foo $", 2, 0);
        T.refused("point 200 $", 3, 6);
        T.refused("ring 0 0 $", 4, 7);
        T.refused("points 1 1;", 2, 0);
        T.refused("poin 1 1;", 2, 0);
        T.refused("pinring 1;", 2, 0);
        T.refused(";", 2, 0);
        T.refused("12", 2, 0);
        T.refused("point 1 1;;", 2, 10);
        T.refused("point;", 2, 5);
        T.refused("point 1;", 2, 7);
        T.refused("point 1 2 3;", 2, 10);
        T.refused("point a 2;", 2, 6);
        T.refused("point 1 2", 2, 9);
        T.refused("point 1 2  ", 2, 11);
        T.refused("point", 2, 5);
        T.refused("pin;", 2, 3);
        T.refused("pin 1 2;", 2, 6);
        T.refused("pin 1", 2, 5);
        T.refused("ring;", 2, 4);
        T.refused("ring 0;", 2, 6);
        T.refused("ring 0 1;", 2, 8);
        T.refused("ring 0 1 x;", 2, 9);
        T.refused("ring 0 1 2 x;", 2, 11);
        T.refused("ring 0 1 2", 2, 10);
    }

    private static void faultsOfNumbersAndCorners() {
        T.refused("point 200 1;", 3, 6);
        T.refused("point 1 200;", 3, 8);
        T.refused("ring 0 1 24;", 3, 9);
        T.refused("ring 24 1 2;", 3, 5);
        T.refused("pin 24;", 3, 4);
        T.refused("ring 0 0 1;", 4, 7);
        T.refused("ring 0 1 2 3 1;", 4, 13);
        T.refused("ring 0 1 2 00;", 4, 11);
    }

    private static void faultsOfTooMany() {
        StringBuilder points = new StringBuilder();
        for (int i = 0; i < 24; i++) {
            points.append("point0 ").append(i).append(';');
        }
        SharedBorders x = new SharedBorders();
        T.due("text() of 24 points", Checks.tell(x, points.toString()), 24);
        T.refused(points + "point$", 5, points.length());
        T.refused(points + "points", 2, points.length());
        String six = "ring0 1 2;".repeat(6);
        T.refused(six, 6, 60);
        T.refused(six + " ring;", 5, 61);
        String ten = "ring0 1 2 3 4 5 6 7 8 9 ";
        T.refused(ten + ";", 6, 25);
        T.refused(ten + "10;", 5, 24);
        T.refused(ten + "0;", 5, 24);
        T.refused(ten + "99;", 5, 24);
        T.refused(ten + "1000;", 1, 24);
        T.refused(ten + "x;", 2, 24);
        T.refused(ten, 2, 24);
    }

    private static void faultsBehindAll() {
        T.refused("pin 3;", 6, 6);
        T.refused("point 1 1;pin 1; ", 6, 17);
        T.refused("ring 0 1 2;", 6, 11);
        T.refused("point 0 0;point 9 0;ring 0 1 2;", 6, 31);
    }

    private static void fairness() {
        notFair("point 1 1;point 1 1;");
        notFair("point 0 0;point 9 0;point 4 0;ring 0 1 2;");
        // A point without edges on an edge.
        String triangle = "point 0 0;point 9 0;point 0 9;";
        notFair(triangle + "point 4 5;ring 0 1 2;");
        T.told(triangle + "point 4 4;ring 0 1 2;");
        T.told(triangle + "point 10 0;ring 0 1 2;");
        // Edges of one ring that cross; edges of two rings that cross.
        notFair("point 0 0;point 9 9;point 9 0;point 0 8;ring 0 1 2 3;");
        notFair(triangle + "point 8 8;point 3 1;point 4 1;ring 0 1 2;ring 3 4 5;");
        // Edges from one point that fall together.
        notFair(triangle + "point 5 0;point 5 9;ring 0 1 2;ring 0 3 4;");
        // Rings that share a point alone.
        T.told(triangle + "point 5 9;point 9 5;ring 0 1 2;ring 2 3 4;");
        // One edge in two rings, in three.
        T.told(Samples.TWO_OVER_AN_EDGE);
        notFair(Samples.TWO_OVER_AN_EDGE + "ring 0 1 4;");
        T.told(triangle + "ring 0 1 2;ring 2 1 0;");
        notFair(triangle + "ring 0 1 2;ring 2 1 0;ring 1 2 0;");
    }

    private static void notFair(String text) {
        T.refused(text, 6, text.length());
    }
}

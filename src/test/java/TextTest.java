/** Promises 1 to 5: a new object, feed, end, text, fault. */
public final class TextTest {
    private static final Checks T = new Checks("TextTest");

    public static void main(String[] args) {
        aNewObject();
        feed();
        end();
        takenTexts();
        faultsOfTokens();
        faultsOfNumbersAndCorners();
        faultsOfTooMany();
        faultsBehindAll();
        fairness();
        hardlyCrossing();
        toldAnew();
        toldBehindARefusedOne();
        allRoomTaken();
        T.finish();
    }

    private static void aNewObject() {
        SharedBorders x = new SharedBorders();
        for (int what = 0; what < 8; what++) {
            T.due("rule(" + what + ")", x.rule(what), 0);
        }
        for (int k = 0; k < 4; k++) {
            T.due("lay(" + k + ", 0, 0)", x.lay(k, 0, 0), -11);
        }
        T.due("fault()", x.fault(), 0);
        T.due("torn()", x.torn(), 0);
        T.due("count(0)", x.count(0), 0);
        T.due("count(1)", x.count(1), 0);
        T.due("count(2)", x.count(2), -4);
        T.due("point(0, 0)", x.point(0, 0), -1);
        T.due("arc(0, 0)", x.arc(0, 0), -1);
        T.due("gone(1)", x.gone(1), -1);
        T.due("left(0)", x.left(0), 0);
        T.due("within(0, 0, 0)", x.within(0, 0, 0), -4);
        T.due("within(0, 0, 1)", x.within(0, 0, 1), -1);
    }

    private static void feed() {
        SharedBorders x = new SharedBorders();
        T.due("feed(-1)", x.feed(-1), -1);
        T.due("feed(128)", x.feed(128), -1);
        T.due("feed(0)", x.feed(0), 1);
        T.due("feed(127)", x.feed(127), 2);
        for (int n = 3; n <= 320; n++) {
            T.due("feed(32) as " + n + "th", x.feed(32), n);
        }
        T.due("feed(32) as 321st", x.feed(32), -3);
        T.due("feed(128) as 321st", x.feed(128), -1);
        T.due("count(1)", x.count(1), 320);
    }

    private static void end() {
        SharedBorders x = new SharedBorders();
        T.due("end(0)", x.end(0), 0);
        T.due("end(1)", x.end(1), -1);
        Checks.feed(x, "point 1 2;junk");
        T.due("end(-1)", x.end(-1), -1);
        T.due("end(15)", x.end(15), -1);
        T.due("end(14)", x.end(14), 14);
        T.due("end(10)", x.end(10), 14);
        T.due("count(1)", x.count(1), 10);
        T.due("text()", x.text(), 1);
        T.due("count(3)", x.count(3), 1);
        T.due("end(0) behind text()", x.end(0), 0);
    }

    private static void takenTexts() {
        SharedBorders x = T.told("point 7 9;");
        x.store(0);
        x.store(1);
        T.due("text() of nothing", x.text(), 0);
        T.due("rule(0)", x.rule(0), 0);
        T.due("count(0)", x.count(0), 0);
        T.due("text() of blanks", Checks.tell(x, "   "), 0);
        T.due("text() of two lands", Checks.tell(x, Samples.TWO_LANDS), 12);
        T.due("rule(0)", x.rule(0), 10);
        T.due("text() without blanks", Checks.tell(x, "point0 199;point199 0;pin1;pin1;"), 4);
        T.due("rule(0)", x.rule(0), 2);
        T.due("rule(1)", x.rule(1), 0);
        T.due("rule(7)", x.rule(7), 1);
        T.due("text() with many blanks", Checks.tell(x, "  point  007   8 ;  pin 0 ; "), 2);
        T.due("point(0, 0)", x.point(0, 0), 7);
        T.due("point(0, 1)", x.point(0, 1), 8);
        T.due("text() that tells points last", Checks.tell(x, "pin 0;ring 0 1 2;point 0 0;point 5 0;point 0 5;"), 5);
        T.due("rule(1)", x.rule(1), 1);
        T.due("text() refused", Checks.tell(x, "x"), -10);
        T.due("fault()", x.fault(), 2);
        T.due("text() taken", Checks.tell(x, ""), 0);
        T.due("fault()", x.fault(), 0);
    }

    private static void faultsOfTokens() {
        int[] none = {0, 9, 10, 31, '/', ':', '`', '{', 127};
        for (int c : none) {
            T.refused("" + (char) c, 1, 0);
        }
        T.refused("a", 2, 0);
        T.refused("z", 2, 0);
        T.refused("0", 2, 0);
        T.refused("9", 2, 0);
        T.refused("A", 1, 0);
        T.refused("  \n", 1, 2);
        T.refused("point 1,2;", 1, 7);
        T.refused("point 1 -2;", 1, 8);
        T.refused("1234", 1, 0);
        T.refused("point 1000 1;", 1, 6);
        T.refused("point 1 0001;", 1, 8);
        T.refused("ring 0 1 2 3333;", 1, 11);
        // A token is read when the one before has been taken.
        T.refused("foo $", 2, 0);
        T.refused("point 200 $", 3, 6);
        T.refused("ring 0 0 $", 4, 7);
        T.refused("points 1 1;", 2, 0);
        T.refused("poin 1 1;", 2, 0);
        T.refused("pinring 1;", 2, 0);
        T.refused(";", 2, 0);
        T.refused("12", 2, 0);
        T.refused("point 1 1;;", 2, 10);
        T.refused("point;", 2, 5);
        T.refused("point 1;", 2, 7);
        T.refused("point 1 2 3;", 2, 10);
        T.refused("point a 2;", 2, 6);
        T.refused("point 1 2", 2, 9);
        T.refused("point 1 2  ", 2, 11);
        T.refused("point", 2, 5);
        T.refused("pin;", 2, 3);
        T.refused("pin 1 2;", 2, 6);
        T.refused("pin 1", 2, 5);
        T.refused("ring;", 2, 4);
        T.refused("ring 0;", 2, 6);
        T.refused("ring 0 1;", 2, 8);
        T.refused("ring 0 1 x;", 2, 9);
        T.refused("ring 0 1 2 x;", 2, 11);
        T.refused("ring 0 1 2", 2, 10);
    }

    private static void faultsOfNumbersAndCorners() {
        T.refused("point 200 1;", 3, 6);
        T.refused("point 1 200;", 3, 8);
        T.refused("ring 0 1 24;", 3, 9);
        T.refused("ring 24 1 2;", 3, 5);
        T.refused("pin 24;", 3, 4);
        T.refused("ring 0 0 1;", 4, 7);
        T.refused("ring 0 1 2 3 1;", 4, 13);
        T.refused("ring 0 1 2 00;", 4, 11);
    }

    private static void faultsOfTooMany() {
        String points = Samples.column(24);
        SharedBorders x = new SharedBorders();
        T.due("text() of 24 points", Checks.tell(x, points), 24);
        T.refused(points + "point$", 5, points.length());
        T.refused(points + "points", 2, points.length());
        String six = "ring0 1 2;".repeat(6);
        T.refused(six, 6, 60);
        T.refused(six + " ring;", 5, 61);
        String ten = "ring0 1 2 3 4 5 6 7 8 9 ";
        T.refused(ten + ";", 6, 25);
        T.refused(ten + "10;", 5, 24);
        T.refused(ten + "0;", 5, 24);
        T.refused(ten + "99;", 5, 24);
        T.refused(ten + "1000;", 1, 24);
        T.refused(ten + "x;", 2, 24);
        T.refused(ten, 2, 24);
    }

    private static void faultsBehindAll() {
        T.refused("pin 3;", 6, 6);
        T.refused("point 1 1;pin 1; ", 6, 17);
        T.refused("ring 0 1 2;", 6, 11);
        // What an earlier text told is not there any more.
        SharedBorders x = T.told("point 0 0;point 9 0;point 0 9;point 9 9;ring 0 1 3 2;");
        T.due("text() of a ring alone", Checks.tell(x, "ring 0 1 3;"), -21);
        T.due("text() of a ring and two points", Checks.tell(x, "point 0 0;point 9 0;ring 0 1 2;"), -41);
        T.due("text() of a ring, its first point missing", Checks.tell(x, "point 0 0;point 9 0;ring 2 0 1;"), -41);
        T.due("text() of two rings", Checks.tell(x, "point 0 0;point 9 0;point 0 9;ring 0 1 2;ring 3 1 2;"), -62);
        T.refused("point 0 0;point 9 0;ring 0 1 2;", 6, 31);
    }

    private static void fairness() {
        notFair("point 1 1;point 1 1;");
        notFair("point 0 0;point 9 0;point 4 0;ring 0 1 2;");
        // A point without edges on an edge.
        String triangle = "point 0 0;point 9 0;point 0 9;";
        notFair(triangle + "point 4 5;ring 0 1 2;");
        T.told(triangle + "point 4 4;ring 0 1 2;");
        T.told(triangle + "point 10 0;ring 0 1 2;");
        // Edges of one ring that cross; edges of two rings that cross.
        notFair("point 0 0;point 9 9;point 9 0;point 0 8;ring 0 1 2 3;");
        notFair(triangle + "point 8 8;point 3 1;point 4 1;ring 0 1 2;ring 3 4 5;");
        // Edges from one point that fall together.
        notFair(triangle + "point 5 0;point 5 9;ring 0 1 2;ring 0 3 4;");
        // Rings that share a point alone.
        T.told(triangle + "point 5 9;point 9 5;ring 0 1 2;ring 2 3 4;");
        // One edge in two rings, in three.
        T.told(Samples.TWO_OVER_AN_EDGE);
        notFair(Samples.TWO_OVER_AN_EDGE + "ring 0 1 4;");
        T.told(triangle + "ring 0 1 2;ring 2 1 0;");
        notFair(triangle + "ring 0 1 2;ring 2 1 0;ring 1 2 0;");
    }

    /** Edges from one point, one of which ends just across another edge: no two others meet. */
    private static void hardlyCrossing() {
        String across = "point 50 50;point 50 60;point 61 50;point 60 51;point 80 40;";
        String inside = "point 50 50;point 50 60;point 61 50;point 51 59;point 52 52;";
        String[] first = {"ring 0 1 2;", "ring 2 1 0;"};
        String[] second = {"ring 0 3 4;", "ring 4 3 0;"};
        for (String a : first) {
            for (String b : second) {
                notFair(across + a + b);
                notFair(across + b + a);
                T.told(inside + a + b);
                T.told(inside + b + a);
            }
        }
    }

    /** An object that has been told much, and then little, answers as one that was told little alone. */
    private static void toldAnew() {
        String[] little = {"point 15 30;", "point 10 10;point 40 60;point 10 60;ring 0 1 2;",
            "point 12 10;point 40 12;point 39 60;point 11 59;ring 3 0 1 2;pin 1;"};
        for (String text : little) {
            SharedBorders fresh = T.told(text);
            SharedBorders x = T.told(Samples.TWO_LANDS + "pin 0;pin 1;pin 9;");
            T.isTrue("text is taken", Checks.tell(x, text) > 0);
            sameAnswers(x, fresh);
            sameMoves(x, fresh);
        }
    }

    /** A refused text had the edge 1 3 in three rings; the next one has no such edge. */
    private static void toldBehindARefusedOne() {
        SharedBorders x = new SharedBorders();
        T.isTrue("text is refused", Checks.tell(x, "point 0 0;point 9 0;point 0 9;point 9 9;point 8 5;point 12 5;"
            + "ring 0 1 2;ring 0 1 3;ring 1 3 4;ring 1 3 5;") < 0);
        T.due("text()", Checks.tell(x, "point 0 0;point 9 0;point 0 9;ring 0 1 2;"), 4);
    }

    private static void sameAnswers(SharedBorders x, SharedBorders y) {
        for (int i = 0; i < 8; i++) {
            T.due("rule(" + i + ")", x.rule(i), y.rule(i));
            for (int p = 0; p < 5; p++) {
                T.due("point(" + p + ", " + i + ")", x.point(p, i), y.point(p, i));
            }
        }
        for (int r = 0; r < 3; r++) {
            for (int i = 0; i < 5; i++) {
                T.due("ring(" + r + ", 0, " + i + ")", x.ring(r, 0, i), y.ring(r, 0, i));
                T.due("corner(" + r + ", 0, " + i + ")", x.corner(r, 0, i), y.corner(r, 0, i));
                T.due("arc(" + r + ", " + i + ")", x.arc(r, i), y.arc(r, i));
                T.due("along(" + r + ", " + i + ", 0)", x.along(r, i, 0), y.along(r, i, 0));
            }
            T.due("along(" + r + ", 1, 1)", x.along(r, 1, 1), y.along(r, 1, 1));
            T.due("gone(" + r + ")", x.gone(r), y.gone(r));
        }
        for (int p = 0; p < 5; p++) {
            for (int q = 0; q < 5; q++) {
                T.due("edge(" + p + ", " + q + ", 0)", x.edge(p, q, 0), y.edge(p, q, 0));
            }
            T.due("why(" + p + ", 0)", x.why(p, 0), y.why(p, 0));
        }
        for (int px = 5; px < 80; px += 15) {
            T.due("within(" + px + ", 25, 0)", x.within(px, 25, 0), y.within(px, 25, 0));
            T.due("within(" + px + ", 60, 0)", x.within(px, 60, 0), y.within(px, 60, 0));
        }
    }

    private static void sameMoves(SharedBorders x, SharedBorders y) {
        int[] places = {70, 60, 70, 10, 55, 10, 10, 30, 55, 60, 70, 35, 40, 10};
        for (int i = 0; i < places.length; i += 2) {
            T.due("move to " + places[i] + " " + places[i + 1],
                x.move(0, places[i], places[i + 1]), y.move(0, places[i], places[i + 1]));
        }
    }

    /** As many points, rings as there may be: what is asked and changed then is in bounds. */
    private static void allRoomTaken() {
        SharedBorders x = new SharedBorders();
        T.due("text() of 24 points, 6 rings", Checks.tell(x, Samples.sixSquares()), 30);
        int[] rules = {24, 6, 24, 0, 6, 6, 24, 0};
        for (int what = 0; what < 8; what++) {
            T.due("rule(" + what + ")", x.rule(what), rules[what]);
        }
        for (int r = 0; r < 6; r++) {
            T.due("gone(" + (r + 1) + ")", x.gone(r + 1), 4 * r);
            T.due("ring(" + r + ", 6, 0)", x.ring(r, 6, 0), 3);
            T.due("ring(" + r + ", 0, 1)", x.ring(r, 0, 1), 8);
            T.due("ring(" + r + ", 0, 2)", x.ring(r, 0, 2), 0);
            T.due("along(" + r + ", 0, 1)", x.along(r, 0, 1), r);
            T.due("along(" + r + ", 1, 1)", x.along(r, 1, 1), -4);
        }
        T.due("within(7, 4, 0)", x.within(7, 4, 0), 5);
        T.due("within(9, 9, 0)", x.within(9, 9, 0), -4);
        T.due("edge(23, 20, 0)", x.edge(23, 20, 0), 1);
        T.due("why(23, 0)", x.why(23, 0), 0);
        T.due("count(3)", x.count(3), 96);
        T.due("count(4)", x.count(4), 60);
        T.due("move(23, 6, 6)", x.move(23, 6, 6), 1);
        T.due("pin(23, 1)", x.pin(23, 1), 0);
        T.due("pin(24, 1)", x.pin(24, 1), -1);
        T.due("store(1)", x.store(1), 0);
        T.isTrue("shake(3, 40)", x.shake(3, 40) > 0);
        T.due("back(1)", x.back(1), 24);
        T.due("rule(7)", x.rule(7), 1);
    }

    private static void notFair(String text) {
        T.refused(text, 6, text.length());
    }
}

/** Promises 23 to 29: store, back, sheet, lay, read, torn, count. */
public final class ImagesSheetsTest {
    private static final Checks T = new Checks("ImagesSheetsTest");
    private static final String LAND = "point 1 1;point 50 1;point 50 50;point 30 8;ring 0 3 1 2;";

    public static void main(String[] args) {
        images();
        sheet();
        lay();
        lanes();
        read();
        readWithFaults();
        readRefused();
        readByMoves();
        count();
        T.finish();
    }

    private static void images() {
        SharedBorders x = new SharedBorders();
        T.due("back(0)", x.back(0), -2);
        T.due("store(0) of nothing", x.store(0), 0);
        T.due("back(0) of nothing", x.back(0), 0);
        x = T.told(LAND);
        T.due("store(0)", x.store(0), 0);
        T.due("store(0) again", x.store(0), 1);
        T.due("back(1)", x.back(1), -2);
        x.move(0, 0, 0);
        x.pin(3, 1);
        T.due("store(1)", x.store(1), 0);
        T.due("back(0)", x.back(0), 4);
        T.due("point(0, 0)", x.point(0, 0), 1);
        T.due("point(3, 7)", x.point(3, 7), 0);
        T.due("gone(1)", x.gone(1), 3);
        T.due("back(1)", x.back(1), 4);
        T.due("point(0, 0)", x.point(0, 0), 0);
        T.due("point(3, 7)", x.point(3, 7), 1);
        T.due("rule(4)", x.rule(4), 1);
        T.due("point(3, 5)", x.point(3, 5), -4);
        x.move(0, 2, 2);
        T.due("back(1) again", x.back(1), 4);
        T.due("point(0, 0)", x.point(0, 0), 0);
        T.due("store(-1)", x.store(-1), -1);
        T.due("store(2)", x.store(2), -1);
        T.due("back(-1)", x.back(-1), -1);
        T.due("back(2)", x.back(2), -1);
        T.due("text refused", Checks.tell(x, "$"), -10);
        T.due("count(0)", x.count(0), 2);
        T.due("text taken", Checks.tell(x, "point 3 3;"), 1);
        T.due("count(0)", x.count(0), 0);
        T.due("back(1)", x.back(1), -2);
        T.due("store(1)", x.store(1), 0);
    }

    private static void sheet() {
        SharedBorders x = new SharedBorders();
        T.due("sheet(0, 0, 40)", x.sheet(0, 0, 40), 1);
        T.due("sheet(3, 2, 0)", x.sheet(3, 2, 0), 1);
        T.due("lay(3, 0, 1)", x.lay(3, 0, 1), -12);
        T.due("sheet(0, 0, 41)", x.sheet(0, 0, 41), -1);
        T.due("sheet(0, 0, -1)", x.sheet(0, 0, -1), -14);
        T.due("sheet(0, 0, -2147483648)", x.sheet(0, 0, Integer.MIN_VALUE), -14);
        T.due("sheet(4, 0, -1)", x.sheet(4, 0, -1), -1);
        T.due("sheet(-1, 0, 1)", x.sheet(-1, 0, 1), -1);
        T.due("sheet(0, 3, -1)", x.sheet(0, 3, -1), -1);
        T.due("sheet(0, -1, 1)", x.sheet(0, -1, 1), -1);
        T.due("count(2) is as it was", x.count(2), 40);
    }

    private static void lay() {
        SharedBorders x = new SharedBorders();
        T.due("lay(0, 0, 1)", x.lay(0, 0, 1), -11);
        T.due("lay(0, -1, 1)", x.lay(0, -1, 1), -11);
        T.due("lay(4, 0, 1)", x.lay(4, 0, 1), -1);
        T.due("lay(-1, 0, 1)", x.lay(-1, 0, 1), -1);
        x.sheet(0, 0, 3);
        T.due("lay(0, 0, 1)", x.lay(0, 0, 1), 1);
        T.due("lay(0, 2, 1)", x.lay(0, 2, 1), 1);
        T.due("lay(0, 3, 1)", x.lay(0, 3, 1), -12);
        T.due("lay(0, -1, 1)", x.lay(0, -1, 1), -12);
        T.due("lay(0, 2147483647, 1)", x.lay(0, Integer.MAX_VALUE, 1), -12);
    }

    private static void three(SharedBorders x, int k, int first, int p, int px, int py) {
        T.due("lay", x.lay(k, first, p), 1);
        T.due("lay", x.lay(k, first + 1, px), 1);
        T.due("lay", x.lay(k, first + 2, py), 1);
    }

    /** The lowest bits of what is laid, with their sign. */
    private static void lanes() {
        int[] high = {256, 65536};
        for (int lane = 0; lane < 3; lane++) {
            SharedBorders x = T.told("point 7 9;");
            x.sheet(0, lane, 3);
            three(x, 0, 0, 0, 100, 127);
            T.due("read of lane " + lane, x.read(0, lane, 0, 1), 1);
            T.due("count(3)", x.count(3), 100);
            T.due("count(4)", x.count(4), 127);
            three(x, 0, 0, 0, 3, 199);
            T.due("199 in lane " + lane, x.read(0, lane, 0, 1), lane == 0 ? -20 : 1);
            if (lane < 2) {
                three(x, 0, 0, high[lane], high[lane] + 5, 6 - high[lane]);
                T.due("high bits in lane " + lane, x.read(0, lane, 0, 1), 1);
                T.due("count(3)", x.count(3), 5);
                T.due("count(4)", x.count(4), 6);
            } else {
                three(x, 0, 0, 65536, 5, 6);
                T.due("high bits in lane 2", x.read(0, 2, 0, 1), -20);
            }
            // A new sheet has cells 0.
            x.sheet(0, lane, 3);
            T.due("read of a new sheet", x.read(0, lane, 0, 1), 1);
            T.due("count(3)", x.count(3), 0);
        }
    }

    private static void read() {
        SharedBorders x = T.told(LAND);
        x.sheet(2, 1, 40);
        three(x, 2, 1, 3, 30, 9);
        three(x, 2, 4, 0, 2, 2);
        T.due("read(2, 1, 1, 2)", x.read(2, 1, 1, 2), 2);
        T.due("point(3, 1)", x.point(3, 1), 9);
        T.due("point(0, 0)", x.point(0, 0), 2);
        T.due("size(3, 0)", x.size(3, 0), 364);
        T.due("the stages follow", x.point(3, 6), 364);
        T.due("torn()", x.torn(), 0);
        T.due("read(2, 1, 0, 0)", x.read(2, 1, 0, 0), 0);
        for (int i = 0; i < 13; i++) {
            three(x, 2, 3 * i, 0, i, 2);
        }
        T.due("read(2, 1, 0, 13)", x.read(2, 1, 0, 13), 13);
        T.due("point(0, 0)", x.point(0, 0), 12);
        T.due("torn()", x.torn(), 0);
        int[][] wrong = {{4, 0, 0, 0}, {-1, 0, 0, 0}, {2, 3, 0, 0}, {2, -1, 0, 0}, {2, 1, 0, 14}, {2, 1, 0, -1}};
        for (int[] w : wrong) {
            T.due("read BAD", x.read(w[0], w[1], w[2], w[3]), -1);
        }
    }

    private static void readWithFaults() {
        SharedBorders x = T.told(LAND);
        T.due("read of nothing", x.read(1, 1, 0, 1), 0);
        T.due("torn() NULL", x.torn(), 1);
        x.sheet(1, 1, 8);
        three(x, 1, 0, 3, 30, 9);
        three(x, 1, 3, 0, 2, 2);
        T.due("read up to the end of the row", x.read(1, 1, 0, 3), 2);
        T.due("torn() INDEX", x.torn(), 2);
        T.due("point(0, 0) came", x.point(0, 0), 2);
        T.due("the stages follow", x.point(3, 6), 364);
        T.due("read of another lane", x.read(1, 0, 0, 1), 0);
        T.due("torn() CAST", x.torn(), 3);
        T.due("read of another lane", x.read(1, 2, -5, 1), 0);
        T.due("torn() CAST ahead of INDEX", x.torn(), 3);
        T.due("read BAD leaves it", x.read(1, 2, 0, 14), -1);
        T.due("torn()", x.torn(), 3);
        T.due("read of none", x.read(1, 2, 0, 0), 0);
        T.due("torn()", x.torn(), 0);
        int[] outside = {-1, 6, 8, -2147483648, 2147483647, 2147483646};
        for (int f : outside) {
            x.read(1, 1, 0, 0);
            T.due("read(1, 1, " + f + ", 13)", x.read(1, 1, f, 13), 0);
            T.due("torn()", x.torn(), 2);
        }
        T.due("read(1, 1, 5, 1)", x.read(1, 1, 5, 1), 1);
        T.due("torn()", x.torn(), 0);
    }

    private static void readRefused() {
        SharedBorders x = T.told(LAND);
        x.sheet(1, 2, 9);
        three(x, 1, 0, 3, 30, 9);
        three(x, 1, 3, 0, 50, 50);
        x.read(1, 0, 0, 1);
        T.due("not FAIR", x.read(1, 2, 0, 3), -21);
        T.due("none came", x.point(3, 1), 8);
        T.due("size(3, 0) as it was", x.size(3, 0), 343);
        T.due("torn() of the one before", x.torn(), 3);
        three(x, 1, 3, 4, 1, 1);
        T.due("no such point", x.read(1, 2, 0, 2), -21);
        three(x, 1, 3, 0, 200, 1);
        T.due("no such place", x.read(1, 2, 0, 2), -21);
        T.due("the first", x.read(1, 2, 3, 1), -20);
        // What the machine refuses first is met first.
        three(x, 1, 3, 0, 2, 2);
        three(x, 1, 6, 9, 9, 9);
        T.due("the third", x.read(1, 2, 0, 3), -22);
        T.due("whole ones ahead of the fault", x.read(1, 2, 3, 3), -21);
        x.lay(1, 6, 3);
        x.lay(1, 7, 30);
        T.due("whole ones ahead of the fault", x.read(1, 2, 3, 3), 2);
        T.due("torn()", x.torn(), 2);
    }

    /** One behind another: the first makes room for the second. */
    private static void readByMoves() {
        SharedBorders x = T.told("point 5 5;point 6 6;");
        x.sheet(0, 0, 6);
        three(x, 0, 0, 0, 9, 9);
        three(x, 0, 3, 1, 5, 5);
        T.due("in this order", x.read(0, 0, 0, 2), 2);
        x.move(1, 6, 6);
        x.move(0, 5, 5);
        three(x, 0, 3, 0, 9, 9);
        three(x, 0, 0, 1, 5, 5);
        T.due("in the other", x.read(0, 0, 0, 2), -20);
    }

    private static void count() {
        SharedBorders x = T.told(LAND);
        T.due("count(3)", x.count(3), 131);
        T.due("count(4)", x.count(4), 60);
        T.due("count(0)", x.count(0), 0);
        x.store(1);
        T.due("count(0)", x.count(0), 1);
        x.store(0);
        T.due("count(0)", x.count(0), 2);
        x.feed(32);
        T.due("count(1)", x.count(1), 1);
        T.due("count(2)", x.count(2), -4);
        x.sheet(1, 0, 5);
        T.due("count(2)", x.count(2), -4);
        x.sheet(0, 0, 0);
        T.due("count(2)", x.count(2), 0);
        x.sheet(0, 2, 7);
        T.due("count(2)", x.count(2), 7);
        T.due("count(-1)", x.count(-1), -1);
        T.due("count(5)", x.count(5), -1);
    }
}

/** The boundary cases of SHEETS and their FAULTS, and of promises 23 to 29: store, back, sheet, lay, read, torn, count. */
public final class BoundsSheetsTest {
    private static final Checks T = new Checks("BoundsSheetsTest");
    private static final int MIN = Integer.MIN_VALUE;
    private static final int MAX = Integer.MAX_VALUE;
    private static final int[] FAR = {MIN, MIN + 1, -2, -1, MAX - 1, MAX};
    private static final String LAND = "point 1 1;point 50 1;point 50 50;point 30 8;ring 0 3 1 2;";

    public static void main(String[] args) {
        imageOfWhich();
        imageOfNothing();
        imagesAreTwo();
        imageHoldsPins();
        imageHoldsRings();
        backLeavesTheRest();
        sheetOfWhich();
        sheetHowLong();
        sheetIsNew();
        layOfWhich();
        layWhere();
        layLowestBits();
        readOfWhich();
        readHowOften();
        readFromWhere();
        readNothing();
        readAnotherLane();
        readPastTheEnd();
        readRefusedByMove();
        readRefusedAtTheLast();
        theFirstMet();
        readMovesOneBehindAnother();
        tornIsOfTheLatest();
        countOfWhat();
        countFromNoneToAll();
        T.finish();
    }

    private static void three(SharedBorders x, int k, int first, int p, int px, int py) {
        T.due("lay", x.lay(k, first, p), 1);
        T.due("lay", x.lay(k, first + 1, px), 1);
        T.due("lay", x.lay(k, first + 2, py), 1);
    }

    private static void readIs(String why, SharedBorders x, int[] call, int answer, int torn) {
        T.due(why + " read(" + call[0] + ", " + call[1] + ", " + call[2] + ", " + call[3] + ")",
            x.read(call[0], call[1], call[2], call[3]), answer);
        T.due(why + " torn()", x.torn(), torn);
    }

    private static int[] of(int k, int lane, int f, int n) {
        return new int[] {k, lane, f, n};
    }

    private static void at(String why, SharedBorders x, int p, int px, int py) {
        T.due(why + " x of " + p, x.point(p, 0), px);
        T.due(why + " y of " + p, x.point(p, 1), py);
    }

    /** "IMAGE k (0, 1) .. BAD." */
    private static void imageOfWhich() {
        SharedBorders x = T.told("point 5 5;");
        for (int k : FAR) {
            T.due("P23 store(" + k + ")", x.store(k), -1);
            T.due("P24 back(" + k + ")", x.back(k), -1);
        }
        T.due("P23 store(2)", x.store(2), -1);
        T.due("P24 back(2): BAD, not STATE", x.back(2), -1);
        T.due("P29 no IMAGES", x.count(0), 0);
        for (int k = 0; k < 2; k++) {
            T.due("P24 back(" + k + ") of none", x.back(k), -2);
            T.due("P23 store(" + k + "): none before", x.store(k), 0);
            T.due("P23 store(" + k + "): one before", x.store(k), 1);
            T.due("P24 back(" + k + ")", x.back(k), 1);
            T.due("P24 back(" + k + ") again", x.back(k), 1);
            T.due("P29 IMAGES", x.count(0), k + 1);
        }
    }

    private static void imageOfNothing() {
        SharedBorders x = new SharedBorders();
        T.due("P23 of no POINTS", x.store(1), 0);
        T.due("P29 is one", x.count(0), 1);
        T.due("P24 0 POINTS", x.back(1), 0);
        T.due("P23 there was one", x.store(1), 1);
        x = T.told(Samples.sixSquares());
        x.store(0);
        T.due("P24 24 POINTS", x.back(0), 24);
        T.due("P6 6 RINGS", x.rule(1), 6);
    }

    private static void imagesAreTwo() {
        SharedBorders x = T.told("point 5 5;");
        x.store(0);
        x.move(0, 6, 6);
        x.store(1);
        x.move(0, 7, 7);
        T.due("P24 back(0)", x.back(0), 1);
        at("P24 IMAGE 0", x, 0, 5, 5);
        T.due("P24 back(1)", x.back(1), 1);
        at("P24 IMAGE 1", x, 0, 6, 6);
        // What is changed behind it does not change the IMAGE.
        x.move(0, 9, 9);
        x.back(1);
        at("P24 IMAGE 1 again", x, 0, 6, 6);
        // A second store() of the same is in place of the first.
        x.move(0, 8, 8);
        T.due("P23 store(0)", x.store(0), 1);
        x.back(1);
        x.back(0);
        at("P24 IMAGE 0 anew", x, 0, 8, 8);
    }

    private static void imageHoldsPins() {
        SharedBorders x = T.told(LAND + "pin 3;");
        x.store(0);
        x.pin(3, 0);
        x.pin(0, 1);
        T.due("P12 it goes", x.gone(1), 3);
        x.back(0);
        T.due("P24 PINNED", x.point(3, 7), 1);
        T.due("P24 not PINNED", x.point(0, 7), 0);
        T.due("P24 STAGES anew", x.gone(1), 1);
        T.due("P24 STAGES anew", x.point(1, 6), 980);
        T.due("P24 ARCS anew", x.arc(0, 1), 3);
    }

    private static void imageHoldsRings() {
        // Only a text changes RINGS, and takes the IMAGES away: a refused one does not.
        SharedBorders x = T.told(LAND);
        x.store(0);
        x.move(0, 2, 2);
        T.due("P4 refused", Checks.tell(x, "point 1 1;x"), -20);
        T.due("P24 back(0)", x.back(0), 4);
        T.due("P24 RINGS", x.rule(1), 1);
        T.due("P24 CORNERS", x.corner(0, 0, 1), 3);
        at("P24", x, 0, 1, 1);
        T.due("P4 taken", Checks.tell(x, LAND), 5);
        T.due("P24 STATE: the IMAGE is gone", x.back(0), -2);
        T.due("P23 none before", x.store(0), 0);
    }

    private static void backLeavesTheRest() {
        SharedBorders x = T.told(LAND);
        x.store(0);
        Checks.tell(x, "x");
        Checks.feed(x, "pin");
        x.sheet(0, 2, 5);
        x.read(1, 0, 0, 1);
        T.due("P24 back(0)", x.back(0), 4);
        T.due("P24 fault() as it was", x.fault(), 2);
        T.due("P24 torn() as it was", x.torn(), 1);
        T.due("P24 the tape as it was", x.count(1), 3);
        T.due("P24 the SHEET as it was", x.count(2), 5);
        T.due("P24 the IMAGE is there", x.count(0), 1);
    }

    /** "SHEETS 0 to 3", "BYTES (lane 0), SHORTS (1), INTS (2)"; "BAD" */
    private static void sheetOfWhich() {
        SharedBorders x = new SharedBorders();
        for (int n : FAR) {
            T.due("P25 sheet(" + n + ", 0, 1)", x.sheet(n, 0, 1), -1);
            T.due("P25 sheet(0, " + n + ", 1)", x.sheet(0, n, 1), -1);
        }
        T.due("P25 sheet(4, 0, 1)", x.sheet(4, 0, 1), -1);
        T.due("P25 sheet(0, 3, 1)", x.sheet(0, 3, 1), -1);
        T.due("P29 nothing still", x.count(2), -4);
        for (int k = 0; k < 4; k++) {
            for (int lane = 0; lane < 3; lane++) {
                T.due("P25 sheet(" + k + ", " + lane + ", 1)", x.sheet(k, lane, 1), 1);
            }
        }
    }

    /** "with 0 to 40 CELLS"; "BAD: also n above 40; -10 - 4" */
    private static void sheetHowLong() {
        for (int k = 0; k < 4; k++) {
            SharedBorders x = new SharedBorders();
            T.due("P25 40 CELLS", x.sheet(k, 2, 40), 1);
            T.due("P26 the last one", x.lay(k, 39, 1), 1);
            T.due("P26 no more", x.lay(k, 40, 1), -12);
            T.due("P25 41 CELLS", x.sheet(k, 2, 41), -1);
            T.due("P25 MAX CELLS", x.sheet(k, 2, MAX), -1);
            T.due("P25 SIZE", x.sheet(k, 2, -1), -14);
            T.due("P25 SIZE", x.sheet(k, 2, MIN), -14);
            T.due("P25 the old one is there", x.lay(k, 39, 1), 1);
            T.due("P25 no CELLS", x.sheet(k, 2, 0), 1);
            T.due("P26 not one", x.lay(k, 0, 1), -12);
            T.due("P25 one CELL", x.sheet(k, 2, 1), 1);
            T.due("P26 one", x.lay(k, 0, 1), 1);
            T.due("P26 not two", x.lay(k, 1, 1), -12);
            T.due("P25 BAD ahead of SIZE: k", x.sheet(4, 2, -1), -1);
            T.due("P25 BAD ahead of SIZE: lane", x.sheet(k, 3, -1), -1);
        }
        SharedBorders x = new SharedBorders();
        T.due("P25 SIZE of nothing", x.sheet(0, 0, -1), -14);
        T.due("P29 nothing still", x.count(2), -4);
    }

    /** "A SHEET is a new row of CELLS 0" */
    private static void sheetIsNew() {
        for (int lane = 0; lane < 3; lane++) {
            SharedBorders x = T.told("point 7 9;");
            x.sheet(2, lane, 6);
            three(x, 2, 0, 5, 5, 5);
            three(x, 2, 3, 0, 5, 6);
            readIs("P25 what is laid", x, of(2, lane, 3, 1), 1, 0);
            at("P25", x, 0, 5, 6);
            x.sheet(2, lane, 6);
            readIs("P25 CELLS 0", x, of(2, lane, 0, 2), 2, 0);
            at("P25", x, 0, 0, 0);
            // The lane is new, too, and so is the length.
            x.sheet(2, (lane + 1) % 3, 3);
            readIs("P25 the old lane", x, of(2, lane, 0, 1), 0, 3);
            readIs("P25 the new lane", x, of(2, (lane + 1) % 3, 0, 1), 1, 0);
            readIs("P25 the new length", x, of(2, (lane + 1) % 3, 1, 1), 0, 2);
            T.due("P29 another SHEET is nothing", x.count(2), -4);
        }
    }

    /** "BAD: k; -10 less the FAULT: NULL, INDEX" */
    private static void layOfWhich() {
        SharedBorders x = new SharedBorders();
        for (int k : FAR) {
            T.due("P26 lay(" + k + ", 0, 1)", x.lay(k, 0, 1), -1);
        }
        T.due("P26 lay(4, 0, 1)", x.lay(4, 0, 1), -1);
        for (int k = 0; k < 4; k++) {
            T.due("P26 NULL", x.lay(k, 0, 1), -11);
            T.due("P26 NULL ahead of INDEX", x.lay(k, -1, 1), -11);
            T.due("P26 NULL ahead of INDEX", x.lay(k, 40, 1), -11);
            T.due("P25 sheet", x.sheet(k, 0, 1), 1);
            T.due("P26 there", x.lay(k, 0, 1), 1);
        }
    }

    private static void layWhere() {
        for (int n : new int[] {0, 1, 2, 39, 40}) {
            SharedBorders x = new SharedBorders();
            x.sheet(3, 1, n);
            for (int i : FAR) {
                T.due("P26 lay(3, " + i + ", 1)", x.lay(3, i, 1), -12);
            }
            for (int i = 0; i <= 41; i++) {
                T.due("P26 lay(3, " + i + ", 1) of " + n, x.lay(3, i, 1), i < n ? 1 : -12);
            }
        }
    }

    /** What comes, if v is laid as x in a lane: the x, or -20, if there is no such place. */
    private static void laid(int lane, int v, int due) {
        SharedBorders x = T.told("point 7 9;");
        x.sheet(1, lane, 3);
        three(x, 1, 0, 0, v, 9);
        int answer = x.read(1, lane, 0, 1);
        T.due("P26 " + v + " in lane " + lane, answer == 1 ? x.point(0, 0) : answer, due);
    }

    /** "CELL i of a SHEET becomes v (its lowest bits)" */
    private static void layLowestBits() {
        int[][] bytes = {{0, 0}, {127, 127}, {128, -20}, {199, -20}, {255, -20}, {256, 0}, {383, 127}, {384, -20},
            {-1, -20}, {-128, -20}, {-129, 127}, {-256, 0}, {MAX, -20}, {MIN, 0}, {MIN + 5, 5}, {65536, 0}};
        int[][] shorts = {{0, 0}, {127, 127}, {128, 128}, {199, 199}, {200, -20}, {255, -20}, {256, -20}, {32767, -20},
            {32768, -20}, {65535, -20}, {65536, 0}, {65536 + 199, 199}, {-1, -20}, {-65536, 0}, {-65535, 1},
            {MAX, -20}, {MIN, 0}, {MIN + 199, 199}};
        int[][] ints = {{0, 0}, {199, 199}, {200, -20}, {256, -20}, {65536, -20}, {65536 + 5, -20}, {-1, -20},
            {-65536, -20}, {MAX, -20}, {MIN, -20}, {MIN + 5, -20}};
        int[][][] all = {bytes, shorts, ints};
        for (int lane = 0; lane < 3; lane++) {
            for (int[] pair : all[lane]) {
                laid(lane, pair[0], pair[1]);
            }
        }
    }

    /** "BAD: k, lane, n" */
    private static void readOfWhich() {
        SharedBorders x = T.told(LAND);
        for (int k = 0; k < 4; k++) {
            x.sheet(k, 0, 40);
        }
        x.read(0, 1, 0, 1);
        for (int n : FAR) {
            readIs("P27 k", x, of(n, 0, 0, 0), -1, 3);
            readIs("P27 lane", x, of(0, n, 0, 0), -1, 3);
            readIs("P27 n", x, of(0, 0, 0, n), -1, 3);
        }
        readIs("P27 k", x, of(4, 0, 0, 1), -1, 3);
        readIs("P27 lane", x, of(0, 3, 0, 1), -1, 3);
        readIs("P27 n", x, of(0, 0, 0, 14), -1, 3);
        readIs("P27 BAD ahead of a FAULT", x, of(0, 0, 40, 14), -1, 3);
        readIs("P27 BAD ahead of a FAULT", x, of(0, 1, 0, 14), -1, 3);
        readIs("P27 BAD ahead of a FAULT", x, of(0, 0, -1, -1), -1, 3);
        for (int k = 0; k < 4; k++) {
            readIs("P27 there", x, of(k, 0, 0, 1), 1, 0);
        }
        at("P27", x, 0, 0, 0);
    }

    /** "n (0 to 13) times": 13 times three CELLS are 39 of 40. */
    private static void readHowOften() {
        SharedBorders x = T.told("point 7 9;");
        x.sheet(0, 1, 40);
        for (int i = 0; i < 13; i++) {
            three(x, 0, 3 * i, 0, 10 + i, 20 + i);
        }
        readIs("P27 none", x, of(0, 1, 0, 0), 0, 0);
        at("P27 none", x, 0, 7, 9);
        readIs("P27 one", x, of(0, 1, 0, 1), 1, 0);
        at("P27 one", x, 0, 10, 20);
        readIs("P27 twelve", x, of(0, 1, 0, 12), 12, 0);
        at("P27 twelve", x, 0, 21, 31);
        readIs("P27 thirteen", x, of(0, 1, 0, 13), 13, 0);
        at("P27 thirteen", x, 0, 22, 32);
        readIs("P27 fourteen", x, of(0, 1, 0, 14), -1, 0);
    }

    /** "three CELLS each from CELL f on" */
    private static void readFromWhere() {
        SharedBorders x = T.told("point 7 9;");
        x.sheet(0, 2, 40);
        for (int f : new int[] {0, 1, 2, 36, 37}) {
            readIs("P27 whole", x, of(0, 2, f, 1), 1, 0);
        }
        for (int f : new int[] {38, 39, 40, 41, -1, -2, -3, MIN, MIN + 1, MAX, MAX - 1, MAX - 2, MAX - 38}) {
            x.read(0, 2, 0, 0);
            readIs("P27 not whole", x, of(0, 2, f, 1), 0, 2);
            x.read(0, 2, 0, 0);
            readIs("P27 not whole", x, of(0, 2, f, 13), 0, 2);
        }
        readIs("P27 up to the last CELL", x, of(0, 2, 1, 13), 13, 0);
        readIs("P27 one CELL too far", x, of(0, 2, 2, 13), 12, 2);
        readIs("P27 two CELLS too far", x, of(0, 2, 3, 13), 12, 2);
        readIs("P27 all three too far", x, of(0, 2, 4, 13), 12, 2);
        readIs("P27 four too far", x, of(0, 2, 5, 13), 11, 2);
        x.sheet(1, 2, 3);
        readIs("P27 just three CELLS", x, of(1, 2, 0, 1), 1, 0);
        x.sheet(1, 2, 2);
        readIs("P27 two CELLS", x, of(1, 2, 0, 1), 0, 2);
        x.sheet(1, 2, 0);
        readIs("P27 no CELLS", x, of(1, 2, 0, 1), 0, 2);
        readIs("P27 no CELLS, none read", x, of(1, 2, 0, 0), 0, 0);
    }

    /** "1 NULL (nothing)" */
    private static void readNothing() {
        SharedBorders x = T.told("point 7 9;");
        for (int k = 0; k < 4; k++) {
            for (int lane = 0; lane < 3; lane++) {
                x.read(k, lane, 0, 0);
                readIs("P27 NULL", x, of(k, lane, 0, 1), 0, 1);
                readIs("P27 NULL ahead of INDEX", x, of(k, lane, -1, 13), 0, 1);
                readIs("P27 nothing read of nothing", x, of(k, lane, 0, 0), 0, 0);
            }
        }
        at("P27 none came", x, 0, 7, 9);
    }

    /** "3 CAST (another lane)" */
    private static void readAnotherLane() {
        for (int lane = 0; lane < 3; lane++) {
            SharedBorders x = T.told("point 7 9;");
            x.sheet(0, lane, 3);
            for (int as = 0; as < 3; as++) {
                readIs("P27 lane " + lane + " as " + as, x, of(0, as, 0, 1), as == lane ? 1 : 0, as == lane ? 0 : 3);
                readIs("P27 CAST ahead of INDEX", x, of(0, as, 3, 1), 0, as == lane ? 2 : 3);
                readIs("P27 CAST ahead of INDEX", x, of(0, as, -1, 1), 0, as == lane ? 2 : 3);
            }
            x.sheet(0, lane, 0);
            readIs("P27 CAST of no CELLS", x, of(0, (lane + 1) % 3, 0, 1), 0, 3);
        }
    }

    /** "What the machine refuses: those that were whole ahead came (its FAULT is asked by torn())" */
    private static void readPastTheEnd() {
        for (int length = 0; length <= 9; length++) {
            SharedBorders x = T.told("point 7 9;");
            x.sheet(0, 0, length);
            for (int i = 0; i < length; i++) {
                x.lay(0, i, i % 3 == 0 ? 0 : 20 + i);
            }
            int whole = length / 3;
            readIs("P27 of " + length, x, of(0, 0, 0, 4), whole, 2);
            at("P27 of " + length, x, 0, whole == 0 ? 7 : 18 + 3 * whole, whole == 0 ? 9 : 19 + 3 * whole);
            readIs("P27 of " + length, x, of(0, 0, 0, whole), whole, 0);
        }
        // The STAGES follow those that came.
        SharedBorders x = T.told(LAND);
        x.sheet(0, 0, 5);
        three(x, 0, 0, 3, 30, 9);
        readIs("P27 one came", x, of(0, 0, 0, 2), 1, 2);
        T.due("P7 its SIZE", x.point(3, 6), 392);
    }

    /** "-20 less i: the i-th, whole, is refused by move() (in either way): then none came" */
    private static void readRefusedByMove() {
        int[][] wrong = {{4, 5, 5}, {-1, 5, 5}, {0, 200, 5}, {0, -1, 5}, {0, 5, 200}, {0, 5, -1}, {0, 50, 50}, {0, 50, 20},
            {MAX, 5, 5}, {MIN, 5, 5}};
        for (int[] w : wrong) {
            SharedBorders x = T.told(LAND);
            x.sheet(0, 2, 9);
            three(x, 0, 0, 3, 30, 9);
            three(x, 0, 3, w[0], w[1], w[2]);
            three(x, 0, 6, 0, 2, 2);
            x.read(1, 0, 0, 1);
            readIs("P27 the second", x, of(0, 2, 0, 3), -21, 1);
            at("P27 none came", x, 3, 30, 8);
            at("P27 none came", x, 0, 1, 1);
            T.due("P27 as it was", x.point(3, 6), 343);
            readIs("P27 the first", x, of(0, 2, 3, 1), -20, 1);
            readIs("P27 those beside it come", x, of(0, 2, 0, 1), 1, 0);
            readIs("P27 those beside it come", x, of(0, 2, 6, 1), 1, 0);
        }
    }

    private static void readRefusedAtTheLast() {
        SharedBorders x = T.told("point 7 9;");
        x.sheet(0, 2, 40);
        for (int i = 0; i < 12; i++) {
            three(x, 0, 3 * i, 0, 50 + i, 60);
        }
        three(x, 0, 36, 1, 0, 0);
        readIs("P27 the 13th", x, of(0, 2, 0, 13), -32, 0);
        at("P27 none came", x, 0, 7, 9);
        readIs("P27 the twelve ahead", x, of(0, 2, 0, 12), 12, 0);
        at("P27 they came", x, 0, 61, 60);
    }

    /** "the first met" */
    private static void theFirstMet() {
        SharedBorders x = T.told("point 7 9;");
        x.sheet(0, 0, 8);
        three(x, 0, 0, 0, 5, 5);
        three(x, 0, 3, 1, 5, 5);
        x.lay(0, 6, 1);
        x.lay(0, 7, 5);
        readIs("P27 a refused one ahead of the end", x, of(0, 0, 0, 3), -21, 0);
        x.lay(0, 3, 0);
        // The third is wrong, but not whole: move() is not asked.
        readIs("P27 the end ahead of a refused one", x, of(0, 0, 0, 3), 2, 2);
        x.lay(0, 0, 1);
        readIs("P27 the first of two", x, of(0, 0, 0, 3), -20, 2);
    }

    /** "one behind another as by move()" */
    private static void readMovesOneBehindAnother() {
        // Two POINTS change places by way of a third.
        SharedBorders x = T.told("point 5 5;point 6 6;");
        x.sheet(0, 0, 9);
        three(x, 0, 0, 0, 9, 9);
        three(x, 0, 3, 1, 5, 5);
        three(x, 0, 6, 0, 6, 6);
        readIs("P27 three moves", x, of(0, 0, 0, 3), 3, 0);
        at("P27", x, 0, 6, 6);
        at("P27", x, 1, 5, 5);
        // Each must be FAIR by itself, though all of them at last would be.
        readIs("P27 the second alone", x, of(0, 0, 6, 1), 1, 0);
        x.move(0, 9, 9);
        x.move(1, 6, 6);
        x.move(0, 5, 5);
        readIs("P27 refused", x, of(0, 0, 3, 2), -20, 0);
    }

    /** "The FAULT of the latest read() that came to an end; 0." */
    private static void tornIsOfTheLatest() {
        SharedBorders x = T.told("point 7 9;");
        T.due("P28 no read() yet", x.torn(), 0);
        x.read(4, 0, 0, 0);
        T.due("P28 none that came to an end", x.torn(), 0);
        x.sheet(0, 0, 3);
        readIs("P28 INDEX", x, of(0, 0, 1, 1), 0, 2);
        T.due("P28 asked again", x.torn(), 2);
        x.sheet(1, 0, -1);
        x.lay(3, 0, 0);
        T.due("P28 no read()", x.torn(), 2);
        x.lay(0, 0, 9);
        readIs("P28 refused by move()", x, of(0, 0, 0, 1), -20, 2);
        readIs("P28 BAD", x, of(0, 0, 0, 14), -1, 2);
        x.text();
        T.due("P28 text() leaves it", x.torn(), 2);
        readIs("P28 none read", x, of(0, 0, 0, 0), 0, 0);
        readIs("P28 NULL", x, of(1, 0, 0, 1), 0, 1);
        readIs("P28 CAST", x, of(0, 1, 0, 1), 0, 3);
    }

    /** "How many: 0 IMAGES, .. 4 y. BAD." */
    private static void countOfWhat() {
        for (SharedBorders x : new SharedBorders[] {new SharedBorders(), T.told(LAND)}) {
            for (int what : FAR) {
                T.due("P29 count(" + what + ")", x.count(what), -1);
            }
            T.due("P29 count(5)", x.count(5), -1);
            T.isTrue("P29 count(4)", x.count(4) >= 0);
            T.due("P29 count(0)", x.count(0), 0);
        }
    }

    private static void countFromNoneToAll() {
        SharedBorders x = new SharedBorders();
        T.due("P29 bytes", x.count(1), 0);
        Checks.feed(x, " ".repeat(321));
        T.due("P29 bytes", x.count(1), 320);
        x.end(7);
        T.due("P29 bytes", x.count(1), 7);
        T.due("P29 CELLS: nothing", x.count(2), -4);
        x.sheet(1, 0, 9);
        T.due("P29 CELLS: nothing", x.count(2), -4);
        for (int n : new int[] {0, 1, 40}) {
            x.sheet(0, n % 3, n);
            T.due("P29 CELLS", x.count(2), n);
        }
        x.sheet(3, 0, 9);
        T.due("P29 CELLS of SHEET 0", x.count(2), 40);
        T.due("P29 x", x.count(3), 0);
        x = T.told(Samples.column(24));
        T.due("P29 x", x.count(3), 0);
        T.due("P29 y", x.count(4), 276);
        for (int p = 0; p < 24; p++) {
            x.move(p, 199, 199 - p);
        }
        T.due("P29 x", x.count(3), 24 * 199);
        T.due("P29 y", x.count(4), 24 * 199 - 276);
        x.store(1);
        T.due("P29 IMAGES", x.count(0), 1);
        x.store(0);
        T.due("P29 IMAGES", x.count(0), 2);
        x.store(0);
        T.due("P29 IMAGES", x.count(0), 2);
    }
}

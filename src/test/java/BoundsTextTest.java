/**
 * The boundary cases of THE TAPE, its TOKENS and FAULTS, and of promises 1 to 5. Each function
 * bears the sentence of the document that it holds the class to.
 */
public final class BoundsTextTest {
    private static final Checks T = new Checks("BoundsTextTest");
    private static final int MIN = Integer.MIN_VALUE;
    private static final int MAX = Integer.MAX_VALUE;
    private static final String TRIANGLE = "point 0 0;point 9 0;point 0 9;";

    public static void main(String[] args) {
        aNewObject();
        feedTakesBytes();
        feedTakes320();
        endKeepsTheFirst();
        textEmptiesTheTape();
        textCountsLines();
        textTellsThePlace();
        textTellsAllAnew();
        faultIsOfTheLatestText();
        blanksAreByte32();
        namesAndNumbersHaveTheirSigns();
        tokensAreAsLongAsMayBe();
        numbersHaveThreeFigures();
        fault2WhereLinesBegin();
        fault2InAPoint();
        fault2InARing();
        fault2InAPin();
        fault3();
        fault4();
        fault5Points();
        fault5Rings();
        fault5Corners();
        fault6();
        theFirstFaultMet();
        T.finish();
    }

    /** "No POINTS; SHEETS have nothing." */
    private static void aNewObject() {
        SharedBorders x = new SharedBorders();
        T.due("P1 rule(0)", x.rule(0), 0);
        T.due("P1 point(0, 0)", x.point(0, 0), -1);
        T.due("P1 ring(0, 0, 0)", x.ring(0, 0, 0), -1);
        T.due("P1 edge(0, 0, 0)", x.edge(0, 0, 0), -1);
        T.due("P1 left(0)", x.left(0), 0);
        T.due("P1 left(1)", x.left(1), -1);
        T.due("P1 move(0, 0, 0)", x.move(0, 0, 0), -1);
        T.due("P1 pin(0, 0)", x.pin(0, 0), -1);
        T.due("P1 shake(0, 1)", x.shake(0, 1), -2);
        T.due("P1 back(0)", x.back(0), -2);
        T.due("P1 back(1)", x.back(1), -2);
        T.due("P1 fault()", x.fault(), 0);
        T.due("P1 torn()", x.torn(), 0);
        int[] counts = {0, 0, -4, 0, 0};
        for (int what = 0; what < counts.length; what++) {
            T.due("P1 count(" + what + ")", x.count(what), counts[what]);
        }
        for (int k = 0; k < 4; k++) {
            for (int lane = 0; lane < 3; lane++) {
                T.due("P1 read of nothing", x.read(k, lane, 0, 1), 0);
                T.due("P1 NULL", x.torn(), 1);
                x.read(k, lane, 0, 0);
            }
        }
    }

    /** "A byte (0 to 127) comes behind THE TAPE: how many it has. BAD" */
    private static void feedTakesBytes() {
        SharedBorders x = new SharedBorders();
        for (int c : new int[] {-1, 128, 255, 256, 256 + 32, MIN, MAX}) {
            T.due("P2 feed(" + c + ")", x.feed(c), -1);
        }
        T.due("P2 no byte came", x.count(1), 0);
        for (int c = 0; c <= 127; c++) {
            T.due("P2 feed(" + c + ")", x.feed(c), c + 1);
        }
        T.due("P2 feed(128) behind them", x.feed(128), -1);
        T.due("P2 the bytes that came", x.count(1), 128);
    }

    /** "THE TAPE has 320 bytes"; "FULL: more than 320" */
    private static void feedTakes320() {
        SharedBorders x = new SharedBorders();
        Checks.feed(x, "point 1 2;");
        for (int n = 11; n <= 319; n++) {
            T.due("P2 the byte " + n, x.feed(' '), n);
        }
        T.due("P2 the byte 320", x.feed(' '), 320);
        T.due("P2 the byte 321", x.feed(';'), -3);
        T.due("P2 the byte 321 again", x.feed(0), -3);
        T.due("P2 BAD ahead of FULL", x.feed(128), -1);
        T.due("P2 BAD ahead of FULL", x.feed(-1), -1);
        T.due("P2 320 bytes", x.count(1), 320);
        T.due("P2 all 320 are told", x.text(), 1);
        T.due("P2 room again", x.feed(' '), 1);
        x = new SharedBorders();
        Checks.feed(x, " ".repeat(320));
        T.due("P2 the byte 321", x.feed(' '), -3);
        T.due("P3 end(319) of a full tape", x.end(319), 320);
        T.due("P2 room for one", x.feed('$'), 320);
        T.due("P2 and no more", x.feed(' '), -3);
        T.due("P4 a FAULT of the last byte", x.text(), -10 - 319);
        T.due("P5 fault()", x.fault(), 1);
    }

    /** "THE TAPE keeps its first n bytes: how many it had. BAD." */
    private static void endKeepsTheFirst() {
        SharedBorders x = new SharedBorders();
        T.due("P3 end(0) of an empty tape", x.end(0), 0);
        T.due("P3 end(1) of an empty tape", x.end(1), -1);
        T.due("P3 end(-1) of an empty tape", x.end(-1), -1);
        Checks.feed(x, "point 1 23;");
        for (int n : new int[] {-1, 12, 320, 321, MIN, MAX}) {
            T.due("P3 end(" + n + ") of 11 bytes", x.end(n), -1);
        }
        T.due("P3 none went", x.count(1), 11);
        T.due("P3 end(11) of 11 bytes", x.end(11), 11);
        T.due("P3 none went", x.count(1), 11);
        T.due("P3 end(9) of 11 bytes", x.end(9), 11);
        T.due("P3 two went", x.count(1), 9);
        T.due("P3 what went is not there", x.end(10), -1);
        T.due("P2 behind the first 9", x.feed(';'), 10);
        T.due("P4 text()", x.text(), 1);
        T.due("P3 the first ones stayed", x.point(0, 1), 2);
        Checks.feed(x, "$");
        T.due("P3 end(0)", x.end(0), 1);
        T.due("P4 nothing is told", x.text(), 0);
        Checks.feed(x, " ".repeat(321));
        T.due("P3 end(321) of a full tape", x.end(321), -1);
        T.due("P3 end(320) of a full tape", x.end(320), 320);
    }

    /** "THE TAPE (empty then) tells all" */
    private static void textEmptiesTheTape() {
        SharedBorders x = new SharedBorders();
        Checks.tell(x, "point 1 2;");
        T.due("P4 empty behind one that is taken", x.count(1), 0);
        Checks.tell(x, "point 1 2");
        T.due("P4 empty behind one that is refused", x.count(1), 0);
        T.due("P4 places from 0 again", Checks.tell(x, "$"), -10);
        Checks.tell(x, "point 1 1;point 1 1;");
        T.due("P4 empty behind one that is not FAIR", x.count(1), 0);
        T.due("P4 an empty tape is taken", x.text(), 0);
        T.due("P4 and tells that there is nothing", x.rule(0), 0);
    }

    /** "how many lines" */
    private static void textCountsLines() {
        T.taken("", 0);
        T.taken(" ", 0);
        T.taken(" ".repeat(320), 0);
        T.taken("point 1 2;", 1);
        T.taken("pin 0;point 1 2;", 2);
        T.taken("point 1 2;pin 0;pin 0;", 3);
        T.due("PINNED once", T.taken("point0 0;" + "pin0;".repeat(62), 63).rule(7), 1);
        T.taken(Samples.sixSquares(), 30);
    }

    /** "-10 less the place of its FAULT"; "places from 0"; "or the end: the length" */
    private static void textTellsThePlace() {
        T.refused("$", 1, 0);
        T.refused(" $", 1, 1);
        T.refused(" ".repeat(319) + "$", 1, 319);
        T.refused(" ".repeat(319) + ";", 2, 319);
        T.refused(" ".repeat(311) + "point 1 2", 2, 320);
        T.refused("point 1 2" + " ".repeat(311), 2, 320);
        T.refused(" ".repeat(309) + "point 1 200", 3, 317);
        T.refused("pin 0;" + " ".repeat(314), 6, 320);
        T.refused("point", 2, 5);
        T.refused("point ", 2, 6);
    }

    /** "A text that is taken tells all, in place of what there was; IMAGES are gone." */
    private static void textTellsAllAnew() {
        SharedBorders x = T.told(TRIANGLE + "ring 0 1 2;pin 1;");
        x.store(0);
        x.store(1);
        x.sheet(0, 1, 7);
        x.read(3, 0, 0, 1);
        T.due("P4 one point alone", Checks.tell(x, "point 5 6;"), 1);
        int[] rules = {1, 0, 0, 0, 0, 0, 0, 0};
        for (int what = 0; what < rules.length; what++) {
            T.due("P4 rule(" + what + ")", x.rule(what), rules[what]);
        }
        T.due("P4 no POINT 1", x.point(1, 0), -1);
        T.due("P4 no RING 0", x.ring(0, 0, 0), -1);
        T.due("P4 no ARC 0", x.arc(0, 0), -1);
        T.due("P4 no IMAGES", x.count(0), 0);
        T.due("P4 no IMAGE 0", x.back(0), -2);
        T.due("P4 no IMAGE 1", x.back(1), -2);
        T.due("P4 the SHEET is there", x.count(2), 7);
        T.due("P4 torn() is as it was", x.torn(), 1);
        x.store(1);
        T.due("P4 nothing at all", x.text(), 0);
        T.due("P4 an empty text, too", x.count(0), 0);
    }

    /** "The FAULT of the latest text(); 0." */
    private static void faultIsOfTheLatestText() {
        SharedBorders x = new SharedBorders();
        T.due("P5 no text yet", x.fault(), 0);
        String[] texts = {"$", "x", "pin 24;", "ring 0 0", "ring 0 1 2 3 4 5 6 7 8 9 10", "pin 0;"};
        for (int i = 0; i < texts.length; i++) {
            T.isTrue("P5 refused", Checks.tell(x, texts[i]) < 0);
            T.due("P5 fault() of '" + texts[i] + "'", x.fault(), i + 1);
            T.due("P5 asked again", x.fault(), i + 1);
        }
        Checks.feed(x, "point 1 2;");
        T.due("P5 not yet told", x.fault(), 6);
        x.text();
        T.due("P5 taken", x.fault(), 0);
        Checks.tell(x, "x");
        x.move(0, 3, 3);
        x.store(0);
        x.back(0);
        T.due("P5 other calls leave it", x.fault(), 2);
        x.text();
        T.due("P5 an empty one is taken", x.fault(), 0);
    }

    /** "blanks (32) between" */
    private static void blanksAreByte32() {
        T.taken("   point   1   2   ;   pin   0   ;   ", 2);
        T.taken("point1 2;pin0;", 2);
        T.taken("point1 2;ring0 1 2;point 9 1;point 9 9;", 4);
        for (int c : new int[] {0, 9, 10, 11, 12, 13, 31, 33, 127}) {
            T.refused("point" + (char) c + "1 2;", 1, 5);
            T.refused("point 1" + (char) c + "2;", 1, 7);
            T.refused("point 1 2;" + (char) c, 1, 10);
        }
    }

    /** "NAMES (a .. z), NUMBERS (1 to 3 figures), one ; ."; "1 no TOKEN" */
    private static void namesAndNumbersHaveTheirSigns() {
        for (int c = 0; c <= 127; c++) {
            boolean name = c >= 'a' && c <= 'z';
            boolean figure = c >= '0' && c <= '9';
            if (c != ' ') {
                T.refused("" + (char) c, name || figure || c == ';' ? 2 : 1, 0);
            }
        }
        // The signs beside a, z, 0, 9 and ; end a TOKEN, and are none.
        for (String sign : new String[] {"`", "{", "/", ":", "<", "A", "Z", "-", "+", ".", ","}) {
            T.refused("point" + sign + " 1 2;", 1, 5);
            T.refused("point 1" + sign + " 2;", 1, 7);
            T.refused("point 1 2" + sign, 1, 9);
        }
        T.refused("Point 1 2;", 1, 0);
        T.refused("pOint 1 2;", 2, 0);
    }

    /** "TOKENS, each as long as may be" */
    private static void tokensAreAsLongAsMayBe() {
        T.refused("pointpoint 1 2;", 2, 0);
        T.refused("poin t 1 2;", 2, 0);
        T.refused("points 1 2;", 2, 0);
        T.refused("rings 0 1 2;", 2, 0);
        T.refused("rin 0 1 2;", 2, 0);
        T.refused("pins 0;", 2, 0);
        T.refused("pi 0;", 2, 0);
        T.refused("p", 2, 0);
        T.refused("pin 1pin 2;", 2, 5);
        T.refused("point 12;", 2, 8);
        T.taken("point 1 2;point 12 3;", 2);
        T.refused("point 1 2;;", 2, 10);
    }

    /** "NUMBERS (1 to 3 figures)"; "1 .. a NUMBER that is too long (its first byte)" */
    private static void numbersHaveThreeFigures() {
        SharedBorders x = T.taken("point 7 07;point 007 000;", 2);
        T.due("7", x.point(0, 0), 7);
        T.due("07", x.point(0, 1), 7);
        T.due("007", x.point(1, 0), 7);
        T.due("000", x.point(1, 1), 0);
        T.refused("point 0007 1;", 1, 6);
        T.refused("point 1 0000;", 1, 8);
        T.refused("point 1 2 3333;", 1, 10);
        T.refused("ring 0000 1 2;", 1, 5);
        T.refused("ring 0 0001 2;", 1, 7);
        T.refused("ring 0 1 0002;", 1, 9);
        T.refused("ring 0 1 2 0003;", 1, 11);
        T.refused("pin 0000;", 1, 4);
        T.refused("pin 0 1000;", 1, 6);
        T.refused("0000", 1, 0);
        T.refused("point 99999999999 1;", 1, 6);
        T.refused("point 1 4294967296;", 1, 8);
        T.refused("point 12345", 1, 6);
        T.taken(TRIANGLE + "ring 000 001 002;pin 002;", 5);
    }

    /** "2 a TOKEN that can not stand there (a NAME that begins no line"; "line: point | ring | pin" */
    private static void fault2WhereLinesBegin() {
        T.refused("line 1 2;", 2, 0);
        T.refused("a", 2, 0);
        T.refused("zzz;", 2, 0);
        T.refused("7", 2, 0);
        T.refused("123 point", 2, 0);
        T.refused(";", 2, 0);
        T.refused("point 1 2; 3", 2, 11);
        T.refused("point 1 2; ;", 2, 11);
        T.refused("point 1 2;text", 2, 10);
    }

    /** "point N N ;" */
    private static void fault2InAPoint() {
        T.refused("point point", 2, 6);
        T.refused("point ;", 2, 6);
        T.refused("point", 2, 5);
        T.refused("point 1 pin", 2, 8);
        T.refused("point 1 ;", 2, 8);
        T.refused("point 1", 2, 7);
        T.refused("point 1 2 pin", 2, 10);
        T.refused("point 1 2 3", 2, 10);
        T.refused("point 1 2", 2, 9);
    }

    /** "ring N N N { N } ;"; "fewer than three CORNERS" */
    private static void fault2InARing() {
        T.refused("ring ring", 2, 5);
        T.refused("ring ;", 2, 5);
        T.refused("ring", 2, 4);
        T.refused("ring 0 pin", 2, 7);
        T.refused("ring 0 ;", 2, 7);
        T.refused("ring 0", 2, 6);
        T.refused("ring 0 1 pin", 2, 9);
        T.refused("ring 0 1 ;", 2, 9);
        T.refused("ring 0 1", 2, 8);
        T.refused("ring 0 1 2 pin", 2, 11);
        T.refused("ring 0 1 2", 2, 10);
        T.refused("ring 0 1 2 3", 2, 12);
        T.refused("ring 0 1 2 3 pin", 2, 13);
        T.taken(TRIANGLE + "ring 0 1 2 ;", 4);
        T.taken(TRIANGLE + "point 1 2;ring 0 1 2 3 ;", 5);
    }

    /** "pin N ;" */
    private static void fault2InAPin() {
        T.refused("pin pin", 2, 4);
        T.refused("pin ;", 2, 4);
        T.refused("pin", 2, 3);
        T.refused("pin 0 pin", 2, 6);
        T.refused("pin 0 1", 2, 6);
        T.refused("pin 0", 2, 5);
    }

    /** "x, y (0 to 199)", "POINTS 0 to 23"; "3 a NUMBER out of its bounds" */
    private static void fault3() {
        SharedBorders x = T.taken("point 0 199;point 199 0;", 2);
        T.due("x 0", x.point(0, 0), 0);
        T.due("y 199", x.point(0, 1), 199);
        T.due("x 199", x.point(1, 0), 199);
        T.due("y 0", x.point(1, 1), 0);
        T.refused("point 200 0;", 3, 6);
        T.refused("point 0 200;", 3, 8);
        T.refused("point 999 0;", 3, 6);
        T.refused("point 0 999;", 3, 8);
        T.refused("ring 24 0 1;", 3, 5);
        T.refused("ring 0 24 1;", 3, 7);
        T.refused("ring 0 1 24;", 3, 9);
        T.refused("ring 0 1 2 24;", 3, 11);
        T.refused("ring 0 1 2 3 4 5 6 7 8 24;", 3, 23);
        T.refused("ring 999 0 1;", 3, 5);
        T.refused("pin 24;", 3, 4);
        T.refused("pin 999;", 3, 4);
        // 23 is in its bounds: there may be no such POINT, or there is.
        T.refused("ring 0 1 23;", 6, 12);
        T.refused("pin 23;", 6, 7);
        x = T.taken(Samples.column(23) + "point1 0;ring0 1 23;pin23;", 26);
        T.due("CORNER 23", x.corner(0, 0, 2), 23);
        T.due("PINNED 23", x.point(23, 7), 1);
    }

    /** "4 a CORNER that the RING has (it)"; "CORNERS: POINTS, no one twice" */
    private static void fault4() {
        T.refused("ring 0 0 1;", 4, 7);
        T.refused("ring 0 1 0;", 4, 9);
        T.refused("ring 0 1 1;", 4, 9);
        T.refused("ring 0 1 2 0;", 4, 11);
        T.refused("ring 0 1 2 2;", 4, 11);
        T.refused("ring 0 1 2 002;", 4, 11);
        T.refused("ring 0 1 2 3 4 5 6 7 8 0;", 4, 23);
        T.refused("ring 0 1 2 3 4 5 6 7 8 8;", 4, 23);
        T.refused("ring 23 1 23;", 4, 10);
        // Another RING may have it.
        T.taken(TRIANGLE + "ring 0 1 2;ring 0 1 2;", 5);
    }

    /** "POINTS 0 on (24 at most)"; "5 the 25th point (its NAME)" */
    private static void fault5Points() {
        String all = Samples.column(24);
        SharedBorders x = T.taken(all, 24);
        T.due("the last one", x.point(23, 1), 23);
        T.due("and no more", x.point(24, 1), -1);
        T.refused(all + "point 1 1;", 5, all.length());
        T.refused(all + "  point", 5, all.length() + 2);
        T.refused(all + "point 200 1;", 5, all.length());
        T.refused(all + "point$", 5, all.length());
        T.taken(all + "pin 23;", 25);
        T.refused(Samples.column(23) + "point 200 1;", 3, all.length() - 10 + 6);
    }

    /** "RINGS 0 on (6 at most)"; "5 .. the 7th ring (its NAME)" */
    private static void fault5Rings() {
        T.due("6 RINGS", T.taken(Samples.sixSquares(), 30).rule(1), 6);
        String six = Samples.sixSquares();
        T.refused(six + "ring0 1 2;", 5, six.length());
        T.refused(six + " ring", 5, six.length() + 1);
        T.refused(six + "ring$", 5, six.length());
        T.refused("ring 0 1 2;".repeat(6) + "ring 0 0", 5, 66);
        T.refused("ring 0 1 2;".repeat(5) + "ring 0 0", 4, 62);
        T.taken(six + "pin 0;", 31);
    }

    /** "CORNERS (3 to 10)"; "the 11th CORNER of a RING (it, whatever it is)" */
    private static void fault5Corners() {
        StringBuilder ten = new StringBuilder();
        Samples.decagon(ten, 0, 0);
        ten.append("point9 9;ring 0 1 2 3 4 5 6 7 8 9");
        int behind = ten.length() + 1;
        T.due("10 CORNERS", T.taken(ten + ";", 12).ring(0, 0, 0), 10);
        T.refused(ten + " 10;", 5, behind);
        T.refused(ten + " 0;", 5, behind);
        T.refused(ten + " 9;", 5, behind);
        T.refused(ten + " 23;", 5, behind);
        T.refused(ten + " 24;", 5, behind);
        T.refused(ten + " 999;", 5, behind);
        // What is no NUMBER is no CORNER.
        T.refused(ten + " 1000;", 1, behind);
        T.refused(ten + " $;", 1, behind);
        T.refused(ten + " pin;", 2, behind);
        T.refused(ten + " ", 2, behind);
        T.due("3 CORNERS", T.taken(TRIANGLE + "ring 0 1 2;", 4).ring(0, 0, 0), 3);
    }

    /** "Behind all (the length): 6 a POINT is told that there is not, or all is not FAIR." */
    private static void fault6() {
        T.refused("pin 0;", 6, 6);
        T.refused("point 1 1;pin 1;", 6, 16);
        T.taken("point 1 1;pin 0;", 2);
        T.taken("pin 0;point 1 1;", 2);
        T.refused(TRIANGLE + "ring 0 1 3;", 6, 41);
        T.refused(TRIANGLE + "ring 3 1 0;", 6, 41);
        T.refused(TRIANGLE + "ring 0 1 2;ring 0 1 3;", 6, 52);
        T.refused(TRIANGLE + "ring 0 1 2;pin 3;", 6, 47);
        T.taken("ring 0 1 2;" + TRIANGLE, 4);
        T.refused("point 1 1;point 1 1;", 6, 20);
        T.refused("point 1 1;point 1 1;   ", 6, 23);
        // What there was does not count: the text tells all.
        SharedBorders x = T.told(TRIANGLE);
        T.due("no POINTS are told", Checks.tell(x, "ring 0 1 2;"), -21);
        T.due("no POINTS are told", Checks.tell(x, "pin 0;"), -16);
        T.due("they are as they were", x.rule(0), 3);
    }

    /** "FAULTS, the first met as it is read (a TOKEN is read when the one before has been taken)" */
    private static void theFirstFaultMet() {
        T.refused("foo 1000", 2, 0);
        T.refused("point 200 1000", 3, 6);
        T.refused("point 1000 200", 1, 6);
        T.refused("ring 0 0 24 $", 4, 7);
        T.refused("ring 0 24 0 $", 3, 7);
        T.refused("ring 0 1; $", 2, 8);
        T.refused("pin 24 $", 3, 4);
        // 6 comes behind all, however early its cause.
        T.refused("pin 9;point 1 1;point 1 1;$", 1, 26);
        T.refused("pin 9;point 1 1;point 1 1;x", 2, 26);
        T.refused("pin 9;point 1 1;point 1 1", 2, 25);
        T.refused("pin 9;point 1 1;point 1 200;", 3, 24);
        T.refused("pin 9;ring 9 8 9;", 4, 15);
    }
}

import java.util.ArrayList;
import java.util.LinkedHashMap;
import java.util.List;
import java.util.Map;
import java.util.function.ToIntFunction;

/**
 * "What is refused changes nothing (but THE TAPE, as told)": an object to which a refused call came
 * answers all that can be asked as one to which none came. So does one that was only asked.
 */
public final class RefusedTest {
    private static final Checks T = new Checks("RefusedTest");
    private static final int MIN = Integer.MIN_VALUE;
    private static final int MAX = Integer.MAX_VALUE;
    private static final String LAND = "point0 0;point90 0;point90 90;point0 90;point40 9;ring0 4 1 2 3;pin2;";

    private record Call(String name, int due, ToIntFunction<SharedBorders> call) { }

    public static void main(String[] args) {
        Map<String, Integer> whole = answers(made());
        for (Call c : refusedCalls()) {
            SharedBorders x = made();
            T.due(c.name, c.call.applyAsInt(x), c.due);
            same(c.name, answers(x), whole);
        }
        refusedTexts();
        onlyAsked();
        refusedWhereThereIsNothing();
        T.finish();
    }

    /** Something of all: POINTS, a RING, PINS, an IMAGE, SHEETS, both FAULTS, bytes on THE TAPE. */
    private static SharedBorders made() {
        SharedBorders x = T.told(LAND);
        x.store(0);
        x.move(4, 41, 9);
        x.pin(1, 1);
        lay(x, 0, 1, 4, 42, 9, 0, 1, 1, 9, 9);
        lay(x, 1, 0, 4, 43, 9);
        lay(x, 2, 2, 0, 0, 90, 5, 5, 5, 4, 200, 9);
        x.read(3, 0, 0, 1);
        Checks.tell(x, "x");
        Checks.feed(x, "point3 4;");
        return x;
    }

    private static void lay(SharedBorders x, int k, int lane, int... cells) {
        x.sheet(k, lane, cells.length);
        for (int i = 0; i < cells.length; i++) {
            x.lay(k, i, cells[i]);
        }
    }

    private static List<Call> refusedCalls() {
        List<Call> out = new ArrayList<>();
        for (int bad : new int[] {MIN, -1, 128, MAX}) {
            out.add(new Call("feed(" + bad + ")", -1, x -> x.feed(bad)));
        }
        for (int bad : new int[] {MIN, -1, 10, 320, 321, MAX}) {
            out.add(new Call("end(" + bad + ")", -1, x -> x.end(bad)));
        }
        refusedChanges(out);
        refusedImages(out);
        refusedSheets(out);
        refusedReads(out);
        return out;
    }

    private static void refusedChanges(List<Call> out) {
        for (int bad : new int[] {MIN, -1, 5, 23, 24, MAX}) {
            out.add(new Call("move(" + bad + ", 1, 1)", -1, x -> x.move(bad, 1, 1)));
            out.add(new Call("pin(" + bad + ", 1)", -1, x -> x.pin(bad, 1)));
            out.add(new Call("pin(" + bad + ", 0)", -1, x -> x.pin(bad, 0)));
        }
        for (int bad : new int[] {MIN, -1, 200, MAX}) {
            out.add(new Call("move(0, " + bad + ", 1)", -1, x -> x.move(0, bad, 1)));
            out.add(new Call("move(0, 1, " + bad + ")", -1, x -> x.move(0, 1, bad)));
        }
        for (int bad : new int[] {MIN, -1, 2, MAX}) {
            out.add(new Call("pin(0, " + bad + ")", -1, x -> x.pin(0, bad)));
            out.add(new Call("pin(2, " + bad + ")", -1, x -> x.pin(2, bad)));
        }
        // Onto a POINT; onto an EDGE; an EDGE over another; an EDGE onto a POINT.
        out.add(new Call("move(4, 0, 0)", -2, x -> x.move(4, 0, 0)));
        out.add(new Call("move(4, 90, 50)", -2, x -> x.move(4, 90, 50)));
        out.add(new Call("move(4, 95, 50)", -2, x -> x.move(4, 95, 50)));
        out.add(new Call("move(3, 82, 18)", -2, x -> x.move(3, 82, 18)));
        out.add(new Call("move(0, 90, 1)", -2, x -> x.move(0, 90, 1)));
        for (int bad : new int[] {MIN, -1, 0, 41, MAX}) {
            out.add(new Call("shake(7, " + bad + ")", -1, x -> x.shake(7, bad)));
        }
    }

    private static void refusedImages(List<Call> out) {
        for (int bad : new int[] {MIN, -1, 2, MAX}) {
            out.add(new Call("store(" + bad + ")", -1, x -> x.store(bad)));
            out.add(new Call("back(" + bad + ")", -1, x -> x.back(bad)));
        }
        out.add(new Call("back(1)", -2, x -> x.back(1)));
    }

    private static void refusedSheets(List<Call> out) {
        for (int bad : new int[] {MIN, -1, 4, MAX}) {
            out.add(new Call("sheet(" + bad + ", 0, 3)", -1, x -> x.sheet(bad, 0, 3)));
            out.add(new Call("lay(" + bad + ", 0, 3)", -1, x -> x.lay(bad, 0, 3)));
        }
        for (int bad : new int[] {MIN, -1, 3, MAX}) {
            out.add(new Call("sheet(0, " + bad + ", 3)", -1, x -> x.sheet(0, bad, 3)));
        }
        for (int k = 0; k < 4; k++) {
            int sheet = k;
            out.add(new Call("sheet(" + k + ", 0, 41)", -1, x -> x.sheet(sheet, 0, 41)));
            out.add(new Call("sheet(" + k + ", 0, MAX)", -1, x -> x.sheet(sheet, 0, MAX)));
            out.add(new Call("sheet(" + k + ", 0, -1)", -14, x -> x.sheet(sheet, 0, -1)));
            out.add(new Call("sheet(" + k + ", 0, MIN)", -14, x -> x.sheet(sheet, 0, MIN)));
        }
        for (int bad : new int[] {MIN, -1, 9, 40, MAX}) {
            out.add(new Call("lay(0, " + bad + ", 3)", -12, x -> x.lay(0, bad, 3)));
            out.add(new Call("lay(3, " + bad + ", 3)", -11, x -> x.lay(3, bad, 3)));
        }
        out.add(new Call("lay(0, 8, 3)", -12, x -> x.lay(0, 8, 3)));
        out.add(new Call("lay(3, 0, 3)", -11, x -> x.lay(3, 0, 3)));
    }

    private static void refusedReads(List<Call> out) {
        for (int bad : new int[] {MIN, -1, 4, MAX}) {
            out.add(new Call("read(" + bad + ", 0, 0, 1)", -1, x -> x.read(bad, 0, 0, 1)));
        }
        for (int bad : new int[] {MIN, -1, 3, MAX}) {
            out.add(new Call("read(0, " + bad + ", 0, 1)", -1, x -> x.read(0, bad, 0, 1)));
        }
        for (int bad : new int[] {MIN, -1, 14, MAX}) {
            out.add(new Call("read(0, 1, 0, " + bad + ")", -1, x -> x.read(0, 1, 0, bad)));
        }
        // 0 to where 3 is: STATE; the POINT 5, the place 200: BAD, the third behind whole ones.
        out.add(new Call("read(2, 2, 0, 1)", -20, x -> x.read(2, 2, 0, 1)));
        out.add(new Call("read(2, 2, 0, 3)", -20, x -> x.read(2, 2, 0, 3)));
        out.add(new Call("read(2, 2, 3, 1)", -20, x -> x.read(2, 2, 3, 1)));
        out.add(new Call("read(2, 2, 6, 1)", -20, x -> x.read(2, 2, 6, 1)));
        out.add(new Call("read(1, 0, 0, 1) behind which one is refused", -21, x -> {
            // The SHEET is laid as it was again, so that the refused read() alone could have changed anything.
            lay(x, 1, 0, 4, 50, 20, 4, 0, 0);
            int answer = x.read(1, 0, 0, 2);
            lay(x, 1, 0, 4, 43, 9);
            return answer;
        }));
    }

    /** THE TAPE is empty then, and the FAULT is told: nothing else is changed. */
    private static void refusedTexts() {
        String[] texts = {"$", "x", "point 200 1;", "ring 0 0 1;", "ring 0 1 2 3 4 5 6 7 8 9 10", "pin 0;",
            "point 1 1;point 1 1;", "point 1 1;pin 0;ring 0 1", "point1 1;point9 1;point1 9;ring0 1 2;pin3;", "point 1 1"};
        for (String text : texts) {
            SharedBorders x = made();
            x.end(0);
            T.isTrue("refused: " + text, Checks.tell(x, text) < 0);
            SharedBorders y = made();
            y.end(0);
            Map<String, Integer> got = answers(x);
            Map<String, Integer> due = answers(y);
            T.isTrue("its FAULT is told", got.remove("fault()") > 0);
            due.remove("fault()");
            same("text " + text, got, due);
        }
    }

    private static void onlyAsked() {
        SharedBorders x = made();
        Map<String, Integer> first = new LinkedHashMap<>();
        asked(first, x);
        Map<String, Integer> again = new LinkedHashMap<>();
        asked(again, x);
        same("asked twice", again, first);
        x = made();
        asked(new LinkedHashMap<>(), x);
        Map<String, Integer> behind = new LinkedHashMap<>();
        used(behind, x);
        Map<String, Integer> due = new LinkedHashMap<>();
        used(due, made());
        same("used behind what was asked", behind, due);
    }

    private static void refusedWhereThereIsNothing() {
        Map<String, Integer> whole = answers(new SharedBorders());
        List<Call> calls = new ArrayList<>();
        calls.add(new Call("shake(1, 1)", -2, x -> x.shake(1, 1)));
        calls.add(new Call("move(0, 0, 0)", -1, x -> x.move(0, 0, 0)));
        calls.add(new Call("pin(0, 1)", -1, x -> x.pin(0, 1)));
        calls.add(new Call("back(0)", -2, x -> x.back(0)));
        calls.add(new Call("lay(0, 0, 1)", -11, x -> x.lay(0, 0, 1)));
        calls.add(new Call("sheet(0, 0, -1)", -14, x -> x.sheet(0, 0, -1)));
        calls.add(new Call("end(1)", -1, x -> x.end(1)));
        calls.add(new Call("feed(-1)", -1, x -> x.feed(-1)));
        for (Call c : calls) {
            SharedBorders x = new SharedBorders();
            T.due(c.name, c.call.applyAsInt(x), c.due);
            same(c.name + " of nothing", answers(x), whole);
        }
    }

    private static void same(String behind, Map<String, Integer> got, Map<String, Integer> due) {
        T.due("as many answers behind " + behind, got.size(), due.size());
        for (Map.Entry<String, Integer> e : due.entrySet()) {
            T.due(e.getKey() + " behind " + behind, got.getOrDefault(e.getKey(), MIN), e.getValue());
        }
    }

    private static Map<String, Integer> answers(SharedBorders x) {
        Map<String, Integer> out = new LinkedHashMap<>();
        asked(out, x);
        used(out, x);
        return out;
    }

    /** All that can be asked and changes nothing. */
    private static void asked(Map<String, Integer> out, SharedBorders x) {
        out.put("fault()", x.fault());
        out.put("torn()", x.torn());
        for (int what = 0; what < 8; what++) {
            out.put("rule(" + what + ")", x.rule(what));
            for (int p = 0; p <= 5; p++) {
                out.put("point(" + p + ", " + what + ")", x.point(p, what));
            }
        }
        for (int what = 0; what < 5; what++) {
            out.put("count(" + what + ")", x.count(what));
        }
        for (int s = 0; s <= 2; s++) {
            for (int i = 0; i < 5; i++) {
                out.put("corner(0, " + s + ", " + i + ")", x.corner(0, s, i));
                out.put("why(" + i + ", " + s + ")", x.why(i, s));
                out.put("size(" + i + ", " + s + ")", x.size(i, s));
            }
            for (int what = 0; what < 3; what++) {
                out.put("ring(0, " + s + ", " + what + ")", x.ring(0, s, what));
            }
            out.put("gone(" + s + ")", x.gone(s));
            out.put("left(" + s + ")", x.left(s));
            out.put("edge(0, 4, " + s + ")", x.edge(0, 4, s));
            out.put("within(40, 5, " + s + ")", x.within(40, 5, s));
        }
        for (int i = 0; i < 4; i++) {
            out.put("arc(0, " + i + ")", x.arc(0, i));
            out.put("arc(1, " + i + ")", x.arc(1, i));
            out.put("along(0, " + i + ", 0)", x.along(0, i, 0));
            out.put("along(1, " + i + ", 0)", x.along(1, i, 0));
        }
        out.put("keep(4)", x.keep(4));
        out.put("limit(1000)", x.limit(1000));
    }

    /** What shows only by use: SHEETS by read(), the IMAGES by back(), THE TAPE by text(). */
    private static void used(Map<String, Integer> out, SharedBorders x) {
        int[][] reads = {{0, 1, 0, 1}, {0, 1, 3, 1}, {0, 1, 6, 1}, {1, 0, 0, 1}, {1, 0, 1, 1}, {2, 2, 0, 1}, {2, 2, 6, 1}, {3, 0, 0, 1}};
        for (int[] r : reads) {
            String call = "read(" + r[0] + ", " + r[1] + ", " + r[2] + ", " + r[3] + ")";
            out.put(call, x.read(r[0], r[1], r[2], r[3]));
            out.put("torn() behind " + call, x.torn());
            out.put("x behind " + call, x.count(3));
            out.put("y behind " + call, x.count(4));
        }
        for (int k = 1; k >= 0; k--) {
            out.put("back(" + k + ")", x.back(k));
            out.put("x behind back(" + k + ")", x.count(3));
            out.put("y behind back(" + k + ")", x.count(4));
            out.put("PINNED behind back(" + k + ")", x.rule(7));
            out.put("gone(1) behind back(" + k + ")", x.gone(1));
        }
        out.put("end(9)", x.end(9));
        out.put("text()", x.text());
        out.put("x behind text()", x.count(3));
        out.put("y behind text()", x.count(4));
    }
}

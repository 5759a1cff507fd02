/** What the tests share: counting wrong answers, feeding texts. */
final class Checks {
    private final String name;
    private int asked;
    private int wrong;

    Checks(String name) {
        this.name = name;
    }

    void due(String call, long got, long want) {
        asked++;
        if (got != want) {
            wrong++;
            System.out.println(name + ": " + call + " answered " + got + ", due is " + want);
        }
    }

    void isTrue(String what, boolean holds) {
        due(what, holds ? 1 : 0, 1);
    }

    /** Feeds a text without telling it. */
    static void feed(SharedBorders x, String text) {
        for (int i = 0; i < text.length(); i++) {
            x.feed(text.charAt(i));
        }
    }

    static int tell(SharedBorders x, String text) {
        feed(x, text);
        return x.text();
    }

    /** A new object that is told a text, which must be taken. */
    SharedBorders told(String text) {
        SharedBorders x = new SharedBorders();
        isTrue("text is taken: " + text, tell(x, text) >= 0);
        return x;
    }

    /** A text that must be taken, with so many lines. */
    SharedBorders taken(String text, int lines) {
        SharedBorders x = new SharedBorders();
        due("text() of '" + text + "'", tell(x, text), lines);
        due("fault() of '" + text + "'", x.fault(), 0);
        due("bytes behind '" + text + "'", x.count(1), 0);
        return x;
    }

    /** A text that must be refused with this fault at this place, and must change nothing. */
    void refused(String text, int fault, int place) {
        SharedBorders x = told("point 7 9;");
        x.store(0);
        due("text() of '" + text + "'", tell(x, text), -10 - place);
        due("fault() of '" + text + "'", x.fault(), fault);
        due("bytes behind '" + text + "'", x.count(1), 0);
        due("points behind '" + text + "'", x.rule(0), 1);
        due("rings behind '" + text + "'", x.rule(1), 0);
        due("x behind '" + text + "'", x.count(3), 7);
        due("images behind '" + text + "'", x.count(0), 1);
    }

    void finish() {
        System.out.println(name + ": " + asked + " answers, " + wrong + " wrong");
        if (wrong != 0) {
            System.exit(1);
        }
    }
}

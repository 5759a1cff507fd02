/** A point put to every place of a small world round a few shapes, held against the Model. */
public final class SmallWorldTest {
    private static final Checks T = new Checks("SmallWorldTest");
    private static final int WORLD = 16;
    /** Shapes of which the point 0 has no edges. */
    private static final String[] SHAPES = {
        "point 15 15;point 2 12;point 2 2;point 13 2;point 14 13;ring 1 2 3 4;",
        "point 15 15;point 3 13;point 1 2;point 12 4;point 13 13;ring 4 3 2 1;",
        "point 15 15;point 1 1;point 6 1;point 12 1;point 12 12;point 7 5;point 2 11;ring 1 2 3 4 5 6;",
        "point 15 15;point 1 7;point 4 3;point 7 7;point 4 12;point 12 9;ring 1 2 3 4;ring 2 5 4 3;",
        "point 15 15;point 0 0;point 14 0;point 7 14;point 6 3;point 8 3;point 7 6;point 9 5;ring 1 2 3;ring 4 5 7 6;",
    };

    public static void main(String[] args) {
        for (String shape : SHAPES) {
            for (int y = 0; y < WORLD; y++) {
                row(shape, y);
            }
        }
        T.finish();
    }

    private static void row(String shape, int y) {
        SharedBorders real = T.told(shape);
        Model model = new Model();
        for (int i = 0; i < shape.length(); i++) {
            model.feed(shape.charAt(i));
        }
        T.isTrue("the model takes it", model.text() > 0);
        for (int x = 0; x < WORLD; x++) {
            String where = shape + " at " + x + " " + y + ": ";
            int s = model.rule(5) * (x % 2);
            T.due(where + "within at stage " + s, real.within(x, y, s), model.within(x, y, s));
            T.due(where + "move", real.move(0, x, y), model.move(0, x, y));
            for (int p = 1; p < model.rule(0); p++) {
                T.due(where + "why of " + p, real.why(p, 0), model.why(p, 0));
            }
            T.due(where + "stages", real.rule(5), model.rule(5));
        }
        // The shape's own corners, put elsewhere.
        for (int x = 0; x < WORLD; x++) {
            int p = 1 + x % (model.rule(0) - 1);
            String where = shape + " with " + p + " at " + x + " " + y + ": ";
            T.due(where + "move", real.move(p, x, y), model.move(p, x, y));
            T.due(where + "stages", real.rule(5), model.rule(5));
        }
    }
}

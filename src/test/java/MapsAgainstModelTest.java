/** All that can be asked of maps by chance, at every stage, held against the Model. */
public final class MapsAgainstModelTest {
    private static final int MAPS = 400;
    private static final Checks T = new Checks("MapsAgainstModelTest");
    /** Stages, loops from a node to itself, closed arcs, reason 4, points in two rings that go. */
    private static final int[] SEEN = new int[5];

    private SharedBorders real;
    private Model model;
    private String text;

    public static void main(String[] args) {
        int maps = args.length > 0 ? Integer.parseInt(args[0]) : MAPS;
        for (int i = 0; i < maps; i++) {
            new MapsAgainstModelTest().ask(Maps.make(31_000L + i));
        }
        for (int i = 0; i < SEEN.length; i++) {
            T.isTrue("what is to be seen was seen: " + i, SEEN[i] > maps / 20);
        }
        T.finish();
    }

    private void same(String call, int got, int want) {
        T.due(got == want ? call : "'" + text + "' " + call, got, want);
    }

    private void ask(Maps.Map map) {
        text = map.text();
        model = new Model();
        renew();
        for (int i = 0; i < text.length(); i++) {
            model.feed(text.charAt(i));
        }
        model.text();
        same("fault", real.fault(), model.fault());
        for (int w = -1; w <= 8; w++) {
            same("rule", real.rule(w), model.rule(w));
        }
        askPoints();
        askArcs();
        for (int s = -1; s <= model.rule(5) + 1; s++) {
            // An object answers 512 calls; each stage has one of its own.
            renew();
            askRings(s);
            renew();
            askStage(s);
        }
        SEEN[0] += model.rule(5) > 0 ? 1 : 0;
    }

    private void renew() {
        real = new SharedBorders();
        Checks.tell(real, text);
    }

    private void askPoints() {
        for (int p = -1; p <= model.rule(0); p++) {
            renew();
            for (int w = -1; w <= 8; w++) {
                same("point(" + p + ", " + w + ")", real.point(p, w), model.point(p, w));
            }
            if (model.point(p, 5) > 0 && model.arc(model.point(p, 4), 3) == 2) {
                SEEN[4]++;
            }
        }
        for (int n = -1; n <= 25; n++) {
            same("keep(" + n + ")", real.keep(n), model.keep(n));
        }
        for (int s = 1; s <= model.rule(5); s++) {
            int size = model.point(model.gone(s), 6);
            for (int a = size - 1; a <= size + 1; a++) {
                same("limit(" + a + ")", real.limit(a), model.limit(a));
            }
        }
    }

    private void askArcs() {
        for (int a = -1; a <= model.rule(4); a++) {
            renew();
            for (int w = -1; w <= 4; w++) {
                same("arc(" + a + ", " + w + ")", real.arc(a, w), model.arc(a, w));
            }
            for (int i = -1; i <= 12; i++) {
                same("along(" + a + ", " + i + ", 0)", real.along(a, i, 0), model.along(a, i, 0));
                same("along(" + a + ", " + i + ", 1)", real.along(a, i, 1), model.along(a, i, 1));
            }
            if (model.arc(a, 1) >= 0 && model.arc(a, 1) == model.arc(a, 2)) {
                SEEN[model.point(model.arc(a, 1), 3) == 1 ? 1 : 2]++;
            }
        }
    }

    private void askRings(int s) {
        for (int r = -1; r <= model.rule(1); r++) {
            for (int w = -1; w <= 3; w++) {
                same("ring(" + r + ", " + s + ", " + w + ")", real.ring(r, s, w), model.ring(r, s, w));
            }
            for (int i = -1; i <= 10; i++) {
                same("corner(" + r + ", " + s + ", " + i + ")", real.corner(r, s, i), model.corner(r, s, i));
            }
        }
    }

    private void askStage(int s) {
        same("gone(" + s + ")", real.gone(s), model.gone(s));
        same("left(" + s + ")", real.left(s), model.left(s));
        for (int p = -1; p <= model.rule(0); p++) {
            same("why(" + p + ", " + s + ")", real.why(p, s), model.why(p, s));
            same("size(" + p + ", " + s + ")", real.size(p, s), model.size(p, s));
            SEEN[3] += model.why(p, s) == 4 ? 1 : 0;
        }
        renew();
        for (int p = 0; p < model.rule(0); p++) {
            for (int q = p % 3; q < model.rule(0); q += 3) {
                same("edge(" + p + ", " + q + ", " + s + ")", real.edge(p, q, s), model.edge(p, q, s));
            }
        }
        renew();
        for (int p = 0; p < model.rule(0); p++) {
            for (int q = 0; q < model.rule(0); q++) {
                int x = (model.point(p, 0) + model.point(q, 0)) / 2, y = (model.point(p, 1) + model.point(q, 1)) / 2;
                if ((p + q) % 4 == 0) {
                    same("within(" + x + ", " + y + ", " + s + ")", real.within(x, y, s), model.within(x, y, s));
                }
            }
        }
    }
}

import java.util.ArrayList;
import java.util.List;
import java.util.Random;

/** Long runs of calls by chance (of a fixed seed), each answer held against the Model's. */
public final class AgainstModelTest {
    private static final int RUNS = 400;
    private static final int CALLS = 512;

    private final Checks checks;
    private final Random random;
    private SharedBorders real;
    private Model model;
    private int calls;
    private final StringBuilder trail = new StringBuilder();

    private AgainstModelTest(Checks checks, long seed) {
        this.checks = checks;
        this.random = new Random(seed);
    }

    public static void main(String[] args) {
        int runs = args.length > 0 ? Integer.parseInt(args[0]) : RUNS;
        Checks checks = new Checks("AgainstModelTest");
        int[] seen = new int[4];
        for (int run = 0; run < runs; run++) {
            new AgainstModelTest(checks, 7_000L + run).run(seen);
        }
        // Runs in which nothing is told, or nothing goes, would prove little.
        checks.isTrue("texts were taken", seen[0] > runs / 4);
        checks.isTrue("texts were refused", seen[1] > runs / 4);
        checks.isTrue("there were stages", seen[2] > runs / 4);
        checks.isTrue("points were moved", seen[3] > runs / 4);
        checks.finish();
    }

    private void run(int[] seen) {
        real = new SharedBorders();
        model = new Model();
        calls = 0;
        while (calls < CALLS) {
            if (model.rule(0) == 0 || random.nextInt(60) == 0) {
                String text = aText();
                if (calls + text.length() + 2 > CALLS) {
                    break;
                }
                for (int i = 0; i < text.length(); i++) {
                    same("feed", real.feed(text.charAt(i)), model.feed(text.charAt(i)));
                }
                trail.append("text '").append(text).append("'; ");
                int answer = model.text();
                same("text", real.text(), answer);
                same("fault", real.fault(), model.fault());
                seen[answer >= 0 ? 0 : 1]++;
                if (model.rule(5) > 0) {
                    seen[2]++;
                }
            }
            for (int i = 0; i < 30 && calls < CALLS; i++) {
                anyCall(seen);
            }
        }
    }

    private void same(String call, int got, int want) {
        calls++;
        checks.due(got == want ? call : trail + call, got, want);
    }

    // ---- texts

    private int near(int v, int by) {
        return Math.max(0, Math.min(199, v + random.nextInt(2 * by + 1) - by));
    }

    /** Cells of a wavering grid, a star, or a few points; pins; now and then with a wrong byte. */
    private String aText() {
        List<int[]> places = new ArrayList<>();
        List<List<Integer>> rings = new ArrayList<>();
        int kind = random.nextInt(8);
        if (kind < 4) {
            grid(places, rings);
        } else if (kind < 7) {
            star(places, rings, 100, 100, 30 + random.nextInt(65));
            if (random.nextBoolean()) {
                star(places, rings, 100, 100, 3 + random.nextInt(20));
            }
        }
        for (int i = random.nextInt(4); i > 0 && places.size() < 24; i--) {
            places.add(new int[] {random.nextInt(200), random.nextInt(200)});
        }
        if (!rings.isEmpty() && rings.size() < 6 && random.nextInt(6) == 0) {
            rings.add(rings.get(random.nextInt(rings.size())));
        }
        String text = written(places, rings);
        if (random.nextInt(5) == 0) {
            text = spoilt(text);
        }
        return text.length() > 320 ? text.substring(0, 320) : text;
    }

    private void grid(List<int[]> places, List<List<Integer>> rings) {
        int wide = 1 + random.nextInt(3), high = 1 + random.nextInt(2), step = 20 + random.nextInt(40);
        int by = random.nextInt(step / 5 + 1);
        int[][] at = new int[wide + 1][high + 1];
        for (int i = 0; i <= wide; i++) {
            for (int j = 0; j <= high; j++) {
                at[i][j] = add(places, near(5 + i * step, by), near(5 + j * step, by));
            }
        }
        int[][] across = new int[wide][high + 1], up = new int[wide + 1][high];
        int share = random.nextInt(4);
        for (int i = 0; i <= wide; i++) {
            for (int j = 0; j <= high; j++) {
                if (i < wide) {
                    across[i][j] = random.nextInt(4) > share || places.size() >= 22 ? -1
                        : add(places, near(5 + i * step + step / 2, by), near(5 + j * step, by));
                }
                if (j < high) {
                    up[i][j] = random.nextInt(4) > share || places.size() >= 22 ? -1
                        : add(places, near(5 + i * step, by), near(5 + j * step + step / 2, by));
                }
            }
        }
        for (int i = 0; i < wide; i++) {
            for (int j = 0; j < high; j++) {
                if (random.nextInt(8) == 0) {
                    continue;
                }
                List<Integer> ring = new ArrayList<>(List.of(at[i][j], across[i][j], at[i + 1][j], up[i + 1][j],
                    at[i + 1][j + 1], across[i][j + 1], at[i][j + 1], up[i][j]));
                ring.removeIf(p -> p < 0);
                rings.add(turned(ring));
            }
        }
    }

    private int add(List<int[]> places, int x, int y) {
        places.add(new int[] {x, y});
        return places.size() - 1;
    }

    private List<Integer> turned(List<Integer> ring) {
        java.util.Collections.rotate(ring, random.nextInt(ring.size()));
        if (random.nextBoolean()) {
            java.util.Collections.reverse(ring);
        }
        return ring;
    }

    private void star(List<int[]> places, List<List<Integer>> rings, int x, int y, int far) {
        int many = 3 + random.nextInt(8);
        List<Integer> ring = new ArrayList<>();
        for (int i = 0; i < many; i++) {
            double turn = 2 * Math.PI * i / many;
            double reach = far * (0.4 + 0.6 * random.nextDouble());
            ring.add(add(places, (int) (x + reach * Math.cos(turn)), (int) (y + reach * Math.sin(turn))));
        }
        rings.add(turned(ring));
    }

    private String written(List<int[]> places, List<List<Integer>> rings) {
        StringBuilder out = new StringBuilder();
        String gap = random.nextInt(3) == 0 ? " " : "";
        for (int[] p : places) {
            out.append("point").append(gap).append(p[0]).append(' ').append(p[1]).append(gap).append(';');
        }
        for (List<Integer> r : rings) {
            out.append("ring");
            for (int i = 0; i < r.size(); i++) {
                out.append(i == 0 ? gap : " ").append(r.get(i));
            }
            out.append(';');
        }
        for (int i = random.nextInt(3); i > 0 && !places.isEmpty(); i--) {
            out.append("pin").append(gap).append(random.nextInt(places.size())).append(';');
        }
        return out.toString();
    }

    private String spoilt(String text) {
        String signs = "point ring pin 0123456789;;  AZ{`/:\n";
        StringBuilder out = new StringBuilder(text);
        for (int i = 1 + random.nextInt(2); i > 0 && out.length() > 0; i--) {
            int at = random.nextInt(out.length());
            char sign = signs.charAt(random.nextInt(signs.length()));
            switch (random.nextInt(3)) {
                case 0 -> out.setCharAt(at, sign);
                case 1 -> out.insert(at, sign);
                default -> out.deleteCharAt(at);
            }
        }
        return random.nextInt(6) == 0 ? out.substring(0, random.nextInt(out.length() + 1)) : out.toString();
    }

    // ---- calls

    /** Mostly a number below the bound, now and then one beside it or at the end of all. */
    private int n(int bound) {
        int[] wild = {-1, -2, bound, bound + 1, Integer.MIN_VALUE, Integer.MAX_VALUE, random.nextInt()};
        return random.nextInt(25) == 0 ? wild[random.nextInt(wild.length)] : random.nextInt(Math.max(1, bound));
    }

    private int aPoint() {
        return n(model.rule(0));
    }

    private int aStage() {
        return n(model.rule(5) + 1);
    }

    private void anyCall(int[] seen) {
        switch (random.nextInt(4)) {
            case 0 -> askWhatThereIs();
            case 1 -> askStages();
            case 2 -> change(seen);
            default -> useSheets();
        }
    }

    private void askWhatThereIs() {
        int a = aPoint(), s = aStage(), r = n(model.rule(1)), w = n(8), i = n(11), arc = n(model.rule(4));
        switch (random.nextInt(6)) {
            case 0 -> same("rule(" + w + ")", real.rule(w), model.rule(w));
            case 1 -> same("point(" + a + ", " + w + ")", real.point(a, w), model.point(a, w));
            case 2 -> same("ring(" + r + ", " + s + ", " + w % 3 + ")", real.ring(r, s, w % 3), model.ring(r, s, w % 3));
            case 3 -> same("corner(" + r + ", " + s + ", " + i + ")", real.corner(r, s, i), model.corner(r, s, i));
            case 4 -> {
                int what = n(4);
                same("arc(" + arc + ", " + what + ")", real.arc(arc, what), model.arc(arc, what));
            }
            default -> {
                int what = n(2), at = n(what == 0 ? 6 : 3);
                same("along(" + arc + ", " + at + ", " + what + ")", real.along(arc, at, what), model.along(arc, at, what));
            }
        }
    }

    private void askStages() {
        int p = aPoint(), q = aPoint(), s = aStage(), x = n(200), y = n(200);
        switch (random.nextInt(9)) {
            case 0 -> same("gone(" + s + ")", real.gone(s), model.gone(s));
            case 1 -> same("left(" + s + ")", real.left(s), model.left(s));
            case 2 -> same("edge(" + p + ", " + q + ", " + s + ")", real.edge(p, q, s), model.edge(p, q, s));
            case 3, 4 -> same("why(" + p + ", " + s + ")", real.why(p, s), model.why(p, s));
            case 5 -> same("size(" + p + ", " + s + ")", real.size(p, s), model.size(p, s));
            case 6 -> {
                int n = n(25);
                same("keep(" + n + ")", real.keep(n), model.keep(n));
            }
            case 7 -> {
                int a = n(random.nextBoolean() ? 500 : 5000);
                same("limit(" + a + ")", real.limit(a), model.limit(a));
            }
            default -> {
                int c = model.corner(n(model.rule(1)), s, 0);
                int ax = c >= 0 && random.nextBoolean() ? near(model.point(c, 0), 3) : x;
                int ay = c >= 0 && random.nextBoolean() ? near(model.point(c, 1), 3) : y;
                same("within(" + ax + ", " + ay + ", " + s + ")", real.within(ax, ay, s), model.within(ax, ay, s));
            }
        }
    }

    private void change(int[] seen) {
        int p = aPoint(), k = n(2);
        switch (random.nextInt(6)) {
            case 0, 1 -> {
                boolean is = model.point(p, 0) >= 0 && random.nextInt(4) > 0;
                int x = is ? near(model.point(p, 0), 12) : n(200), y = is ? near(model.point(p, 1), 12) : n(200);
                trail.append("move(").append(p).append(", ").append(x).append(", ").append(y).append("); ");
                int answer = model.move(p, x, y);
                seen[3] += answer == 1 ? 1 : 0;
                same("move", real.move(p, x, y), answer);
            }
            case 2 -> {
                int on = n(2);
                trail.append("pin(").append(p).append(", ").append(on).append("); ");
                same("pin", real.pin(p, on), model.pin(p, on));
            }
            case 3 -> {
                int seed = random.nextInt(), n = n(41);
                trail.append("shake(").append(seed).append(", ").append(n).append("); ");
                same("shake", real.shake(seed, n), model.shake(seed, n));
            }
            case 4 -> {
                trail.append("store(").append(k).append("); ");
                same("store", real.store(k), model.store(k));
            }
            default -> {
                trail.append("back(").append(k).append("); ");
                same("back", real.back(k), model.back(k));
            }
        }
    }

    private void useSheets() {
        int k = n(4);
        switch (random.nextInt(6)) {
            case 0 -> {
                int lane = n(3), n = n(41);
                trail.append("sheet(").append(k).append(", ").append(lane).append(", ").append(n).append("); ");
                same("sheet", real.sheet(k, lane, n), model.sheet(k, lane, n));
            }
            case 1 -> layThree(k);
            case 2, 3 -> {
                int lane = n(3), f = random.nextInt(3) == 0 ? n(40) : 0, n = n(random.nextInt(3) == 0 ? 14 : 3);
                trail.append("read(").append(k).append(", ").append(lane).append(", ").append(f).append(", ").append(n).append("); ");
                same("read", real.read(k, lane, f, n), model.read(k, lane, f, n));
                same("torn", real.torn(), model.torn());
            }
            case 4 -> {
                int what = n(5);
                same("count(" + what + ")", real.count(what), model.count(what));
            }
            default -> {
                int c = n(128), n = n(6);
                same("feed(" + c + ")", real.feed(c), model.feed(c));
                same("end(" + n + ")", real.end(n), model.end(n));
                same("end(0)", real.end(0), model.end(0));
            }
        }
    }

    private void layThree(int k) {
        int first = random.nextBoolean() ? 3 * random.nextInt(3) : n(40), p = aPoint();
        boolean is = model.point(p, 0) >= 0;
        int[] row = {p, is ? near(model.point(p, 0), 6) : n(200), is ? near(model.point(p, 1), 6) : n(200)};
        for (int i = 0; i < 3; i++) {
            int high = random.nextInt(10) == 0 ? random.nextInt() << 16 : 0;
            trail.append("lay(").append(k).append(", ").append(first + i).append(", ").append(row[i] + high).append("); ");
            same("lay", real.lay(k, first + i, row[i] + high), model.lay(k, first + i, row[i] + high));
        }
    }
}

import java.util.ArrayList;
import java.util.HashSet;
import java.util.List;
import java.util.Set;
import java.util.TreeSet;
import java.util.regex.Matcher;
import java.util.regex.Pattern;

/**
 * The document said a second time, in other ways than the class: texts by a pattern, stages as
 * whole copies, crossings by fractions, arcs by what hangs together, sheets as rows of the machine
 * whose own exceptions tell the faults.
 */
final class Model {
    static final int BAD = -1, STATE = -2, FULL = -3, NONE = -4;
    private static final Pattern TOKEN = Pattern.compile("\\G *([a-z]+|[0-9]+|;|[^ ]|\\z)", Pattern.DOTALL);

    private record Place(int x, int y) { }

    private record All(List<Place> places, List<List<Integer>> rings, Set<Integer> pins) {
        All copy() {
            return new All(new ArrayList<>(places), rings, new TreeSet<>(pins));
        }
    }

    private static final class Refused extends Exception {
        private static final long serialVersionUID = 1L;
        final int fault;
        final int place;

        Refused(int fault, int place) {
            this.fault = fault;
            this.place = place;
        }
    }

    private String tape = "";
    private All all = new All(new ArrayList<>(), new ArrayList<>(), new TreeSet<>());
    private final All[] images = new All[2];
    private final Object[] sheets = new Object[4];
    private int fault;
    private int torn;

    private List<List<List<Integer>>> ringsAt;
    private List<Integer> order;
    private List<Integer> sizes;
    private List<List<Integer>> arcs;
    private List<List<Integer>> arcRings;
    private List<Set<Integer>> arcInner;

    Model() {
        derive();
    }

    // ---- the text

    int feed(int c) {
        if (c < 0 || c > 127) return BAD;
        if (tape.length() == 320) return FULL;
        tape += (char) c;
        return tape.length();
    }

    int end(int n) {
        if (n < 0 || n > tape.length()) return BAD;
        int had = tape.length();
        tape = tape.substring(0, n);
        return had;
    }

    int text() {
        String told = tape;
        tape = "";
        try {
            All next = new All(new ArrayList<>(), new ArrayList<>(), new TreeSet<>());
            int lines = parse(told, next);
            all = next;
            images[0] = images[1] = null;
            fault = 0;
            derive();
            return lines;
        } catch (Refused r) {
            fault = r.fault;
            return -10 - r.place;
        }
    }

    private Matcher tokens;
    private String token;
    private int at;

    private void next() throws Refused {
        if (!tokens.find()) throw new IllegalStateException("no token at all");
        token = tokens.group(1);
        at = tokens.start(1);
        boolean good = token.isEmpty() || token.matches("[a-z]+|[0-9]{1,3}|;");
        if (!good) throw new Refused(1, at);
    }

    private boolean isNumber() {
        return !token.isEmpty() && Character.isDigit(token.charAt(0));
    }

    private int number(int most) throws Refused {
        next();
        if (!isNumber()) throw new Refused(2, at);
        int v = Integer.parseInt(token);
        if (v > most) throw new Refused(3, at);
        return v;
    }

    private void semicolon() throws Refused {
        next();
        if (!token.equals(";")) throw new Refused(2, at);
    }

    private int parse(String told, All to) throws Refused {
        tokens = TOKEN.matcher(told);
        int lines = 0;
        for (next(); !token.isEmpty(); next()) {
            if (token.equals("point")) {
                if (to.places.size() == 24) throw new Refused(5, at);
                int x = number(199);
                to.places.add(new Place(x, number(199)));
                semicolon();
            } else if (token.equals("ring")) {
                if (to.rings.size() == 6) throw new Refused(5, at);
                List<Integer> ring = new ArrayList<>();
                for (next(); isNumber(); next()) {
                    if (ring.size() == 10) throw new Refused(5, at);
                    int v = Integer.parseInt(token);
                    if (v > 23) throw new Refused(3, at);
                    if (ring.contains(v)) throw new Refused(4, at);
                    ring.add(v);
                }
                if (!token.equals(";") || ring.size() < 3) throw new Refused(2, at);
                to.rings.add(ring);
            } else if (token.equals("pin")) {
                to.pins.add(number(23));
                semicolon();
            } else {
                throw new Refused(2, at);
            }
            lines++;
        }
        for (int p : to.pins) if (p >= to.places.size()) throw new Refused(6, told.length());
        for (List<Integer> r : to.rings) for (int p : r) if (p >= to.places.size()) throw new Refused(6, told.length());
        if (!fair(to)) throw new Refused(6, told.length());
        return lines;
    }

    int fault() {
        return fault;
    }

    // ---- fairness

    private static List<int[]> edgesOf(List<Integer> ring) {
        List<int[]> out = new ArrayList<>();
        for (int i = 0; i < ring.size(); i++) {
            int p = ring.get(i), q = ring.get((i + 1) % ring.size());
            out.add(new int[] {Math.min(p, q), Math.max(p, q)});
        }
        return out;
    }

    private static Set<Integer> edgeKeys(List<Integer> ring) {
        Set<Integer> out = new TreeSet<>();
        for (int[] e : edgesOf(ring)) out.add(e[0] * 100 + e[1]);
        return out;
    }

    private static Set<Integer> edgeKeys(Iterable<List<Integer>> rings) {
        Set<Integer> out = new TreeSet<>();
        for (List<Integer> r : rings) out.addAll(edgeKeys(r));
        return out;
    }

    private static int area(All a, List<Integer> ring) {
        int sum = 0;
        for (int i = 0; i < ring.size(); i++) {
            Place p = a.places.get(ring.get(i)), q = a.places.get(ring.get((i + 1) % ring.size()));
            sum += p.x * q.y - q.x * p.y;
        }
        return sum;
    }

    /** On the segment: both ways along it have the length of it. */
    private static boolean on(Place a, Place b, Place c) {
        long dx = b.x - a.x, dy = b.y - a.y, ex = c.x - a.x, ey = c.y - a.y;
        long dot = dx * ex + dy * ey;
        return dx * ey == dy * ex && dot >= 0 && dot <= dx * dx + dy * dy;
    }

    /** Segments that are not parallel meet at a + t (b - a) = c + u (d - c), t and u from 0 to 1. */
    private static boolean meet(Place a, Place b, Place c, Place d) {
        if (on(a, b, c) || on(a, b, d) || on(c, d, a) || on(c, d, b)) return true;
        long rx = b.x - a.x, ry = b.y - a.y, sx = d.x - c.x, sy = d.y - c.y;
        long den = rx * sy - ry * sx;
        if (den == 0) return false;
        long t = (c.x - a.x) * sy - (c.y - a.y) * sx;
        long u = (c.x - a.x) * ry - (c.y - a.y) * rx;
        if (den < 0) {
            den = -den;
            t = -t;
            u = -u;
        }
        return t >= 0 && t <= den && u >= 0 && u <= den;
    }

    private static boolean fair(All a) {
        if (new HashSet<>(a.places).size() != a.places.size()) return false;
        List<Integer> keys = new ArrayList<>(edgeKeys(a.rings));
        for (int key : keys) {
            int uses = 0;
            for (List<Integer> r : a.rings) if (edgeKeys(r).contains(key)) uses++;
            if (uses > 2) return false;
            Place e = a.places.get(key / 100), f = a.places.get(key % 100);
            for (int p = 0; p < a.places.size(); p++) {
                if (p != key / 100 && p != key % 100 && on(e, f, a.places.get(p))) return false;
            }
            for (int other : keys) {
                Set<Integer> ends = new HashSet<>(List.of(key / 100, key % 100));
                ends.add(other / 100);
                ends.add(other % 100);
                if (ends.size() == 4 && meet(e, f, a.places.get(other / 100), a.places.get(other % 100))) return false;
            }
        }
        for (List<Integer> r : a.rings) if (area(a, r) == 0) return false;
        return true;
    }

    // ---- what follows: arcs, stages

    private int degree(int p) {
        int d = 0;
        for (int key : edgeKeys(all.rings)) if (key / 100 == p || key % 100 == p) d++;
        return d;
    }

    private boolean node(int p) {
        return all.pins.contains(p) || degree(p) != 2;
    }

    private void derive() {
        deriveArcs();
        deriveStages();
    }

    private void deriveArcs() {
        arcs = new ArrayList<>();
        arcRings = new ArrayList<>();
        arcInner = new ArrayList<>();
        Set<Integer> done = new HashSet<>();
        for (List<Integer> ring : all.rings) {
            List<int[]> edges = edgesOf(ring);
            for (int[] first : edges) {
                if (done.contains(first[0] * 100 + first[1])) continue;
                Set<Integer> group = together(first[0] * 100 + first[1]);
                done.addAll(group);
                int begin = -1;
                for (int i = 0; i < ring.size(); i++) {
                    if (group.contains(edges.get(i)[0] * 100 + edges.get(i)[1]) && node(ring.get(i))) begin = i;
                }
                List<Integer> row = new ArrayList<>();
                int many = begin < 0 ? ring.size() : group.size() + 1;
                for (int i = 0; i < many; i++) row.add(ring.get((Math.max(begin, 0) + i) % ring.size()));
                arcs.add(row);
                List<Integer> in = new ArrayList<>();
                for (int r = 0; r < all.rings.size(); r++) if (edgeKeys(all.rings.get(r)).containsAll(group)) in.add(r);
                arcRings.add(in);
                Set<Integer> inner = new TreeSet<>();
                for (int key : group) for (int p : new int[] {key / 100, key % 100}) if (!node(p)) inner.add(p);
                arcInner.add(inner);
            }
        }
    }

    private Set<Integer> together(int key) {
        Set<Integer> group = new HashSet<>(Set.of(key));
        boolean grew = true;
        while (grew) {
            grew = false;
            for (int other : edgeKeys(all.rings)) {
                if (group.contains(other)) continue;
                for (int p : new int[] {other / 100, other % 100}) {
                    boolean touches = group.stream().anyMatch(g -> g / 100 == p || g % 100 == p);
                    if (touches && !node(p)) {
                        grew |= group.add(other);
                    }
                }
            }
        }
        return group;
    }

    private void deriveStages() {
        ringsAt = new ArrayList<>();
        order = new ArrayList<>();
        sizes = new ArrayList<>();
        List<List<Integer>> now = all.rings;
        ringsAt.add(now);
        while (true) {
            int best = -1;
            for (int p = 0; p < all.places.size(); p++) {
                if (reason(p, now) != 0) continue;
                if (best < 0 || triangle(p, now) < triangle(best, now)) best = p;
            }
            if (best < 0) return;
            order.add(best);
            sizes.add(triangle(best, now));
            List<List<Integer>> then = new ArrayList<>();
            for (List<Integer> r : now) {
                List<Integer> copy = new ArrayList<>(r);
                copy.remove((Object) best);
                then.add(copy);
            }
            ringsAt.add(then);
            now = then;
        }
    }

    private List<Integer> besides(int p, List<List<Integer>> rings) {
        Set<Integer> out = new TreeSet<>();
        for (int key : edgeKeys(rings)) {
            if (key / 100 == p) out.add(key % 100);
            if (key % 100 == p) out.add(key / 100);
        }
        return new ArrayList<>(out);
    }

    private static int twice(Place a, Place b, Place c) {
        return Math.abs(a.x * (b.y - c.y) + b.x * (c.y - a.y) + c.x * (a.y - b.y));
    }

    private int triangle(int p, List<List<Integer>> rings) {
        List<Integer> two = besides(p, rings);
        return twice(all.places.get(p), all.places.get(two.get(0)), all.places.get(two.get(1)));
    }

    private boolean thereIn(int p, List<List<Integer>> rings) {
        return degree(p) == 0 || rings.stream().anyMatch(r -> r.contains(p));
    }

    private int reason(int p, List<List<Integer>> rings) {
        if (node(p) || !thereIn(p, rings)) return 1;
        List<Integer> two = besides(p, rings);
        if (edgeKeys(rings).contains(two.get(0) * 100 + two.get(1))) return 2;
        for (List<Integer> r : rings) if (r.contains(p) && r.size() <= 3) return 3;
        Place a = all.places.get(p), b = all.places.get(two.get(0)), c = all.places.get(two.get(1));
        for (int q = 0; q < all.places.size(); q++) {
            if (q == p || two.contains(q) || !thereIn(q, rings)) continue;
            Place o = all.places.get(q);
            boolean flat = twice(a, b, c) == 0;
            boolean in = twice(o, a, b) + twice(o, b, c) + twice(o, c, a) == twice(a, b, c);
            if (flat ? on(a, b, o) || on(b, c, o) || on(c, a, o) : in) return 4;
        }
        for (List<Integer> r : rings) {
            if (!r.contains(p)) continue;
            List<Integer> less = new ArrayList<>(r);
            less.remove((Object) p);
            if ((long) area(all, less) * area(all, r) <= 0) return 5;
        }
        return 0;
    }

    // ---- what there is

    private boolean isPoint(int p) {
        return p >= 0 && p < all.places.size();
    }

    private boolean isStage(int s) {
        return s >= 0 && s <= order.size();
    }

    private int countPoints(java.util.function.IntPredicate which) {
        return (int) java.util.stream.IntStream.range(0, all.places.size()).filter(which).count();
    }

    int rule(int what) {
        return switch (what) {
            case 0 -> all.places.size();
            case 1 -> all.rings.size();
            case 2 -> edgeKeys(all.rings).size();
            case 3 -> countPoints(p -> degree(p) > 0 && node(p));
            case 4 -> arcs.size();
            case 5 -> order.size();
            case 6 -> countPoints(p -> degree(p) > 0);
            case 7 -> all.pins.size();
            default -> BAD;
        };
    }

    int point(int p, int what) {
        if (!isPoint(p) || what < 0 || what > 7) return BAD;
        int stage = order.indexOf(p) + 1;
        switch (what) {
            case 0: return all.places.get(p).x;
            case 1: return all.places.get(p).y;
            case 2: return degree(p);
            case 3: return node(p) ? 1 : 0;
            case 4:
                for (int a = 0; a < arcs.size(); a++) if (arcInner.get(a).contains(p)) return a;
                return NONE;
            case 5: return stage > 0 ? stage : NONE;
            case 6: return stage > 0 ? sizes.get(stage - 1) : NONE;
            default: return all.pins.contains(p) ? 1 : 0;
        }
    }

    int ring(int r, int s, int what) {
        if (r < 0 || r >= all.rings.size() || !isStage(s) || what < 0 || what > 2) return BAD;
        List<List<Integer>> rings = ringsAt.get(s);
        if (what == 0) return rings.get(r).size();
        if (what == 1) return area(all, rings.get(r));
        int n = 0;
        for (int o = 0; o < rings.size(); o++) {
            Set<Integer> both = edgeKeys(rings.get(r));
            both.retainAll(edgeKeys(rings.get(o)));
            if (o != r && !both.isEmpty()) n++;
        }
        return n;
    }

    int corner(int r, int s, int i) {
        if (r < 0 || r >= all.rings.size() || !isStage(s)) return BAD;
        List<Integer> row = ringsAt.get(s).get(r);
        return i < 0 || i >= row.size() ? BAD : row.get(i);
    }

    int arc(int a, int what) {
        if (a < 0 || a >= arcs.size()) return BAD;
        List<Integer> row = arcs.get(a);
        return switch (what) {
            case 0 -> row.size();
            case 1 -> row.get(0);
            case 2 -> node(row.get(0)) ? row.get(row.size() - 1) : row.get(0);
            case 3 -> arcRings.get(a).size();
            default -> BAD;
        };
    }

    int along(int a, int i, int what) {
        if (a < 0 || a >= arcs.size() || i < 0 || what < 0 || what > 1) return BAD;
        List<Integer> row = (what == 0 ? arcs : arcRings).get(a);
        return i < row.size() ? row.get(i) : NONE;
    }

    // ---- stages

    int gone(int s) {
        return s < 1 || !isStage(s) ? BAD : order.get(s - 1);
    }

    int left(int s) {
        if (!isStage(s)) return BAD;
        Set<Integer> ends = new HashSet<>();
        for (List<Integer> r : ringsAt.get(s)) ends.addAll(r);
        return ends.size();
    }

    int edge(int p, int q, int s) {
        if (!isPoint(p) || !isPoint(q) || !isStage(s)) return BAD;
        int n = 0;
        for (List<Integer> r : ringsAt.get(s)) {
            if (edgeKeys(r).contains(Math.min(p, q) * 100 + Math.max(p, q))) n++;
        }
        return n;
    }

    int why(int p, int s) {
        return isPoint(p) && isStage(s) ? reason(p, ringsAt.get(s)) : BAD;
    }

    int size(int p, int s) {
        if (!isPoint(p) || !isStage(s)) return BAD;
        return node(p) || !thereIn(p, ringsAt.get(s)) ? NONE : triangle(p, ringsAt.get(s));
    }

    int keep(int n) {
        if (n < 0) return BAD;
        for (int s = 0; s <= order.size(); s++) if (left(s) <= n) return s;
        return NONE;
    }

    int limit(int a) {
        if (a < 0) return BAD;
        int s = 0;
        while (s < order.size() && sizes.get(s) <= a) s++;
        return s;
    }

    /** A ray so little tilted that no corner of this world is on it. */
    int within(int x, int y, int s) {
        if (x < 0 || x > 199 || y < 0 || y > 199 || !isStage(s)) return BAD;
        Place here = new Place(x, y), far = new Place(x + 1000, y + 1);
        int found = NONE;
        for (int r = 0; r < all.rings.size(); r++) {
            int crossed = 0;
            for (int[] e : edgesOf(ringsAt.get(s).get(r))) {
                Place a = all.places.get(e[0]), b = all.places.get(e[1]);
                if (on(a, b, here)) return STATE;
                if (meet(a, b, here, far)) crossed++;
            }
            if (crossed % 2 == 1 && found == NONE) found = r;
        }
        return found;
    }

    // ---- changes

    private int put(int p, int x, int y) {
        if (!isPoint(p) || x < 0 || x > 199 || y < 0 || y > 199) return BAD;
        Place was = all.places.set(p, new Place(x, y));
        if (fair(all)) return 1;
        all.places.set(p, was);
        return STATE;
    }

    int move(int p, int x, int y) {
        int answer = put(p, x, y);
        derive();
        return answer;
    }

    int pin(int p, int on) {
        if (!isPoint(p) || on < 0 || on > 1) return BAD;
        boolean was = on == 1 ? !all.pins.add(p) : all.pins.remove(p);
        derive();
        return was ? 1 : 0;
    }

    int shake(int seed, int n) {
        if (n < 1 || n > 40) return BAD;
        if (all.places.isEmpty()) return STATE;
        long drawn = seed;
        int came = 0;
        for (int i = 0; i < n; i++) {
            drawn = (drawn * 1103515245L + 12345L) & 0xffffffffL;
            int got = (int) ((drawn & 0x7fff0000L) / 65536L);
            int p = got % all.places.size();
            Place at = all.places.get(p);
            if (put(p, at.x + (got >> 5) % 5 - 2, at.y + (got >> 8) % 5 - 2) == 1) came++;
        }
        derive();
        return came;
    }

    // ---- images, sheets

    int store(int k) {
        if (k < 0 || k > 1) return BAD;
        int was = images[k] == null ? 0 : 1;
        images[k] = all.copy();
        return was;
    }

    int back(int k) {
        if (k < 0 || k > 1) return BAD;
        if (images[k] == null) return STATE;
        all = images[k].copy();
        derive();
        return all.places.size();
    }

    int sheet(int k, int lane, int n) {
        if (k < 0 || k > 3 || lane < 0 || lane > 2 || n > 40) return BAD;
        try {
            sheets[k] = lane == 0 ? new byte[n] : lane == 1 ? new short[n] : new int[n];
            return 1;
        } catch (NegativeArraySizeException e) {
            return -14;
        }
    }

    int lay(int k, int i, int v) {
        if (k < 0 || k > 3) return BAD;
        try {
            if (sheets[k] instanceof byte[] b) b[i] = (byte) v;
            else if (sheets[k] instanceof short[] s) s[i] = (short) v;
            else ((int[]) sheets[k])[i] = v;
            return 1;
        } catch (NullPointerException e) {
            return -11;
        } catch (ArrayIndexOutOfBoundsException e) {
            return -12;
        }
    }

    private int cell(int k, int lane, int i) {
        return switch (lane) {
            case 0 -> ((byte[]) sheets[k])[i];
            case 1 -> ((short[]) sheets[k])[i];
            default -> ((int[]) sheets[k])[i];
        };
    }

    int read(int k, int lane, int f, int n) {
        if (k < 0 || k > 3 || lane < 0 || lane > 2 || n < 0 || n > 13) return BAD;
        All was = all.copy();
        int came = 0;
        int found = 0;
        try {
            for (int i = 0; i < n; i++) {
                int c = f + 3 * i;
                if (put(cell(k, lane, c), cell(k, lane, c + 1), cell(k, lane, c + 2)) != 1) {
                    all = was;
                    return -20 - i;
                }
                came++;
            }
        } catch (NullPointerException e) {
            found = 1;
        } catch (ArrayIndexOutOfBoundsException e) {
            found = 2;
        } catch (ClassCastException e) {
            found = 3;
        }
        torn = found;
        derive();
        return came;
    }

    int torn() {
        return torn;
    }

    int count(int what) {
        switch (what) {
            case 0: return (images[0] == null ? 0 : 1) + (images[1] == null ? 0 : 1);
            case 1: return tape.length();
            case 2: return sheets[0] == null ? NONE : java.lang.reflect.Array.getLength(sheets[0]);
            case 3: return all.places.stream().mapToInt(Place::x).sum();
            case 4: return all.places.stream().mapToInt(Place::y).sum();
            default: return BAD;
        }
    }
}

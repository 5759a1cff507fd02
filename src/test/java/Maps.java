import java.util.ArrayList;
import java.util.Collections;
import java.util.List;
import java.util.Random;
import java.util.Set;
import java.util.TreeMap;
import java.util.TreeSet;

/**
 * Maps by chance (of a fixed seed): places cut into triangles, rings that go round some of these. Rings share
 * borders, touch at corners, lie within one another or over one another; places that no ring goes through stay.
 */
final class Maps {
    private static final int MOST_BYTES = 320;

    /** What a text tells. */
    record Map(List<int[]> places, List<List<Integer>> rings, Set<Integer> pins) {
        String text() {
            StringBuilder out = new StringBuilder();
            for (int[] p : places) {
                out.append("point").append(p[0]).append(' ').append(p[1]).append(';');
            }
            for (List<Integer> r : rings) {
                out.append("ring");
                for (int i = 0; i < r.size(); i++) {
                    out.append(i == 0 ? "" : " ").append(r.get(i));
                }
                out.append(';');
            }
            for (int p : pins) {
                out.append("pin").append(p).append(';');
            }
            return out.toString();
        }
    }

    private final Random random;
    private final List<int[]> places = new ArrayList<>();
    private final List<int[]> triangles = new ArrayList<>();

    private Maps(long seed) {
        random = new Random(seed);
    }

    /** A map whose text THE TAPE can hold; nearly all are fair (an edge may be in a third ring). */
    static Map make(long seed) {
        Maps maker = new Maps(seed);
        maker.scatter();
        maker.cut();
        Map map = new Map(maker.places, maker.rings(), maker.pins());
        while (map.text().length() > MOST_BYTES && !map.rings().isEmpty()) {
            map.rings().remove(map.rings().size() - 1);
        }
        while (map.text().length() > MOST_BYTES && !map.pins().isEmpty()) {
            map.pins().clear();
        }
        return map;
    }

    private void scatter() {
        int many = 4 + random.nextInt(18);
        int[] spans = {5, 7, 10, 30, 100};
        int span = spans[random.nextInt(spans.length)];
        int left = random.nextInt(101 - span);
        int low = random.nextInt(101 - span);
        for (int tries = 0; tries < 200 && places.size() < many; tries++) {
            int[] p = {left + random.nextInt(span), low + random.nextInt(span)};
            if (places.stream().noneMatch(q -> q[0] == p[0] && q[1] == p[1])) {
                places.add(p);
            }
        }
    }

    private long side(int a, int b, int c) {
        int[] p = places.get(a), q = places.get(b), r = places.get(c);
        return (long) (q[0] - p[0]) * (r[1] - p[1]) - (long) (q[1] - p[1]) * (r[0] - p[0]);
    }

    private boolean between(int a, int b, int c) {
        int[] p = places.get(a), q = places.get(b), r = places.get(c);
        long dot = (long) (p[0] - r[0]) * (q[0] - r[0]) + (long) (p[1] - r[1]) * (q[1] - r[1]);
        return side(a, b, c) == 0 && dot <= 0;
    }

    private boolean crosses(int[] e, int[] f) {
        if (e[0] == f[0] || e[0] == f[1] || e[1] == f[0] || e[1] == f[1]) {
            return false;
        }
        return side(e[0], e[1], f[0]) * side(e[0], e[1], f[1]) < 0 && side(f[0], f[1], e[0]) * side(f[0], f[1], e[1]) < 0;
    }

    /** Lines from place to place, by chance, as many as go in; the triangles that they leave. */
    private void cut() {
        List<int[]> pairs = new ArrayList<>();
        for (int a = 0; a < places.size(); a++) {
            for (int b = a + 1; b < places.size(); b++) {
                pairs.add(new int[] {a, b});
            }
        }
        Collections.shuffle(pairs, random);
        boolean[][] joined = new boolean[places.size()][places.size()];
        List<int[]> lines = new ArrayList<>();
        for (int[] e : pairs) {
            boolean free = lines.stream().noneMatch(f -> crosses(e, f));
            for (int c = 0; c < places.size(); c++) {
                free &= c == e[0] || c == e[1] || !between(e[0], e[1], c);
            }
            if (free) {
                lines.add(e);
                joined[e[0]][e[1]] = true;
            }
        }
        for (int a = 0; a < places.size(); a++) {
            for (int b = a + 1; b < places.size(); b++) {
                for (int c = b + 1; c < places.size(); c++) {
                    if (joined[a][b] && joined[b][c] && joined[a][c] && isEmpty(a, b, c)) {
                        triangles.add(new int[] {a, b, c});
                    }
                }
            }
        }
    }

    private boolean isEmpty(int a, int b, int c) {
        long way = side(a, b, c);
        for (int d = 0; d < places.size(); d++) {
            if (d != a && d != b && d != c
                && side(a, b, d) * way >= 0 && side(b, c, d) * way >= 0 && side(c, a, d) * way >= 0) {
                return false;
            }
        }
        return way != 0;
    }

    private List<List<Integer>> rings() {
        List<List<Integer>> out = new ArrayList<>();
        List<int[]> free = new ArrayList<>(triangles);
        boolean overlaid = random.nextInt(4) == 0;
        int most = 1 + random.nextInt(6);
        for (int tries = 0; tries < 12 && out.size() < most && !free.isEmpty(); tries++) {
            List<int[]> region = new ArrayList<>();
            List<Integer> ring = grown(region, free);
            out.add(ring);
            if (!overlaid) {
                free.removeAll(region);
            }
        }
        return out;
    }

    /** The border of a region that grows triangle by triangle, as long as its border is one ring. */
    private List<Integer> grown(List<int[]> region, List<int[]> free) {
        region.add(free.get(random.nextInt(free.size())));
        List<Integer> ring = border(region);
        for (int tries = random.nextInt(60); tries > 0; tries--) {
            int[] next = free.get(random.nextInt(free.size()));
            if (region.contains(next)) {
                continue;
            }
            region.add(next);
            List<Integer> wider = border(region);
            if (wider.isEmpty()) {
                region.remove(next);
            } else {
                ring = wider;
            }
        }
        List<Integer> turned = new ArrayList<>(ring);
        Collections.rotate(turned, random.nextInt(turned.size()));
        if (random.nextBoolean()) {
            Collections.reverse(turned);
        }
        return turned;
    }

    /** The ring round a region; empty, if it is not one ring of 3 to 10 corners. */
    private static List<Integer> border(List<int[]> region) {
        TreeMap<Integer, Integer> uses = new TreeMap<>();
        for (int[] t : region) {
            uses.merge(t[0] * 100 + t[1], 1, Integer::sum);
            uses.merge(t[1] * 100 + t[2], 1, Integer::sum);
            uses.merge(t[0] * 100 + t[2], 1, Integer::sum);
        }
        TreeMap<Integer, List<Integer>> beside = new TreeMap<>();
        for (int key : uses.keySet()) {
            if (uses.get(key) == 1) {
                beside.computeIfAbsent(key / 100, p -> new ArrayList<>()).add(key % 100);
                beside.computeIfAbsent(key % 100, p -> new ArrayList<>()).add(key / 100);
            }
        }
        if (beside.size() > 10 || beside.values().stream().anyMatch(two -> two.size() != 2)) {
            return List.of();
        }
        List<Integer> ring = new ArrayList<>(List.of(beside.firstKey()));
        int at = beside.get(ring.get(0)).get(0);
        while (at != ring.get(0)) {
            int from = ring.get(ring.size() - 1);
            ring.add(at);
            List<Integer> two = beside.get(at);
            at = two.get(0) == from ? two.get(1) : two.get(0);
        }
        return ring.size() == beside.size() ? ring : List.of();
    }

    private Set<Integer> pins() {
        Set<Integer> out = new TreeSet<>();
        for (int i = random.nextInt(3); i > 0; i--) {
            out.add(random.nextInt(places.size()));
        }
        return out;
    }
}

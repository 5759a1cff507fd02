import java.util.ArrayList;
import java.util.Collections;
import java.util.List;
import java.util.Set;
import java.util.TreeSet;

/**
 * The same map told in another way must answer the same; no second writing of the document is needed here. A map
 * as it is at a stage is told anew, a map is mirrored, its rings are turned, turned over, put in another order.
 */
public final class RetoldTest {
    private static final int MAPS = 600;
    private static final int FAR = 199;
    private static final Checks T = new Checks("RetoldTest");
    private static int retold;

    public static void main(String[] args) {
        int maps = args.length > 0 ? Integer.parseInt(args[0]) : MAPS;
        for (int i = 0; i < maps; i++) {
            Maps.Map map = Maps.make(77_000L + i);
            SharedBorders x = new SharedBorders();
            if (Checks.tell(x, map.text()) < 0) {
                continue;
            }
            for (int s = 1; s <= x.rule(5); s++) {
                aStageToldAnewGoesOnAsItDid(map, s);
            }
            mirrored(map);
            acrossForUp(map);
            ringsBegunElsewhere(map);
            ringsTurnedOver(map);
            ringsTheOtherWayRound(map);
        }
        T.isTrue("stages were told anew", retold > maps);
        T.finish();
    }

    /** "stages, each within the one ahead": what is there at a stage is fair, and thins as the whole did. */
    private static void aStageToldAnewGoesOnAsItDid(Maps.Map map, int s) {
        SharedBorders x = T.told(map.text());
        List<Integer> kept = new ArrayList<>();
        for (int p = 0; p < map.places().size(); p++) {
            int goneAt = x.point(p, 5);
            if (goneAt == SharedBorders.NONE || goneAt > s) {
                kept.add(p);
            }
        }
        List<int[]> places = new ArrayList<>();
        Set<Integer> pins = new TreeSet<>();
        for (int p : kept) {
            places.add(map.places().get(p));
            if (map.pins().contains(p)) {
                pins.add(kept.indexOf(p));
            }
        }
        List<List<Integer>> rings = new ArrayList<>();
        for (int r = 0; r < map.rings().size(); r++) {
            List<Integer> ring = new ArrayList<>();
            for (int i = 0; i < x.ring(r, s, 0); i++) {
                ring.add(kept.indexOf(x.corner(r, s, i)));
            }
            rings.add(ring);
        }
        String text = new Maps.Map(places, rings, pins).text();
        SharedBorders y = T.told(text);
        String which = "'" + map.text() + "' at stage " + s + ": ";
        // An object answers 512 calls, most of which a long text takes.
        x = T.told(map.text());
        T.due(which + "stages", y.rule(5), x.rule(5) - s);
        T.due(which + "left", y.rule(6), x.left(s));
        for (int t = 1; t <= y.rule(5); t++) {
            T.due(which + "gone at " + t, kept.get(y.gone(t)), x.gone(s + t));
            T.due(which + "its size", y.point(y.gone(t), 6), x.point(x.gone(s + t), 6));
        }
        for (int r = 0; r < rings.size(); r++) {
            for (int what = 0; what < 3; what++) {
                T.due(which + "ring " + r + ", " + what, y.ring(r, 0, what), x.ring(r, s, what));
            }
        }
        x = T.told(map.text());
        y = T.told(text);
        for (int p = 0; p < kept.size(); p++) {
            T.due(which + "why " + p, y.why(p, 0), x.why(kept.get(p), s));
            T.due(which + "size " + p, y.size(p, 0), x.size(kept.get(p), s));
            T.due(which + "node " + p, y.point(p, 3), x.point(kept.get(p), 3));
        }
        retold++;
    }

    /** The stages, the numbers of arcs, and all that has nothing to do with places or ways round. */
    private static void sameStages(String which, String one, String other) {
        SharedBorders x = T.told(one);
        SharedBorders y = T.told(other);
        for (int what = 0; what < 8; what++) {
            T.due(which + "rule " + what, y.rule(what), x.rule(what));
        }
        for (int s = 1; s <= x.rule(5); s++) {
            T.due(which + "gone at " + s, y.gone(s), x.gone(s));
        }
        int points = x.rule(0);
        int last = x.rule(5);
        for (int p = 0; p < points; p++) {
            for (int what : new int[] {2, 3, 5, 6, 7}) {
                T.due(which + "point " + p + ", " + what, y.point(p, what), x.point(p, what));
            }
            T.due(which + "why " + p, y.why(p, last), x.why(p, last));
        }
    }

    private static void moved(String how, Maps.Map map, List<int[]> places) {
        String text = new Maps.Map(places, map.rings(), map.pins()).text();
        if (text.length() > 320) {
            return;
        }
        String which = "'" + map.text() + "' " + how + ": ";
        sameStages(which, map.text(), text);
        SharedBorders x = T.told(map.text());
        SharedBorders y = T.told(text);
        int last = x.rule(5);
        for (int r = 0; r < x.rule(1); r++) {
            // A mirror turns every ring over.
            T.due(which + "area of " + r, y.ring(r, last, 1), -x.ring(r, last, 1));
        }
        for (int a = 0, arcs = x.rule(4); a < arcs; a++) {
            for (int what = 0; what < 4; what++) {
                T.due(which + "arc " + a + ", " + what, y.arc(a, what), x.arc(a, what));
            }
        }
        SharedBorders asked = T.told(map.text());
        SharedBorders other = T.told(text);
        for (int p = 0; p < places.size(); p++) {
            int q = (p + 1) % places.size();
            int[] from = middle(map.places(), p, q);
            int[] to = how.equals("mirrored") ? new int[] {FAR - from[0], from[1]} : new int[] {from[1], from[0]};
            T.due(which + "within " + p, other.within(to[0], to[1], 0), asked.within(from[0], from[1], 0));
        }
    }

    private static int[] middle(List<int[]> places, int p, int q) {
        int[] a = places.get(p), b = places.get(q);
        return new int[] {(a[0] + b[0]) / 2, (a[1] + b[1]) / 2};
    }

    private static void mirrored(Maps.Map map) {
        List<int[]> places = new ArrayList<>();
        for (int[] p : map.places()) {
            places.add(new int[] {FAR - p[0], p[1]});
        }
        moved("mirrored", map, places);
    }

    private static void acrossForUp(Maps.Map map) {
        List<int[]> places = new ArrayList<>();
        for (int[] p : map.places()) {
            places.add(new int[] {p[1], p[0]});
        }
        moved("across for up", map, places);
    }

    private static void ringsBegunElsewhere(Maps.Map map) {
        List<List<Integer>> rings = new ArrayList<>();
        for (List<Integer> ring : map.rings()) {
            List<Integer> turned = new ArrayList<>(ring);
            Collections.rotate(turned, 1 + rings.size());
            rings.add(turned);
        }
        otherRings("begun elsewhere", map, rings, 1);
    }

    private static void ringsTurnedOver(Maps.Map map) {
        List<List<Integer>> rings = new ArrayList<>();
        for (List<Integer> ring : map.rings()) {
            List<Integer> turned = new ArrayList<>(ring);
            Collections.reverse(turned);
            rings.add(turned);
        }
        otherRings("turned over", map, rings, -1);
    }

    private static void otherRings(String how, Maps.Map map, List<List<Integer>> rings, int sign) {
        String text = new Maps.Map(map.places(), rings, map.pins()).text();
        String which = "'" + map.text() + "' " + how + ": ";
        sameStages(which, map.text(), text);
        SharedBorders x = T.told(map.text());
        SharedBorders y = T.told(text);
        for (int r = 0; r < rings.size(); r++) {
            T.due(which + "area of " + r, y.ring(r, x.rule(5), 1), sign * x.ring(r, x.rule(5), 1));
            T.due(which + "neighbours of " + r, y.ring(r, 0, 2), x.ring(r, 0, 2));
        }
        // The same arcs, be it in another order: as many points in all, and each in as many rings.
        int[] sums = new int[4];
        for (int a = 0; a < x.rule(4); a++) {
            sums[0] += x.arc(a, 0);
            sums[1] += x.arc(a, 3);
            sums[2] += y.arc(a, 0);
            sums[3] += y.arc(a, 3);
        }
        T.due(which + "points of all arcs", sums[2], sums[0]);
        T.due(which + "rings of all arcs", sums[3], sums[1]);
    }

    private static void ringsTheOtherWayRound(Maps.Map map) {
        List<List<Integer>> rings = new ArrayList<>(map.rings());
        Collections.reverse(rings);
        String text = new Maps.Map(map.places(), rings, map.pins()).text();
        String which = "'" + map.text() + "' rings the other way round: ";
        sameStages(which, map.text(), text);
        SharedBorders x = T.told(map.text());
        SharedBorders y = T.told(text);
        for (int r = 0; r < rings.size(); r++) {
            int other = rings.size() - 1 - r;
            T.due(which + "area of " + r, y.ring(r, x.rule(5), 1), x.ring(other, x.rule(5), 1));
        }
    }
}

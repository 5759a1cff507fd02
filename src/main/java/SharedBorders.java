/**
 * Borders of lands thinned together: points, rings that share their borders, arcs, and the stages
 * at which one point after another goes. The document ../shared/DOC.md tells what each call does.
 */
public final class SharedBorders {
    public static final int BAD = -1, STATE = -2, FULL = -3, NONE = -4;

    private static final int POINT_ROOM = 24;
    private static final int RING_ROOM = 6;
    private static final int LEAST_CORNERS = 3;
    private static final int CORNER_ROOM = 10;
    private static final int EDGE_ROOM = RING_ROOM * CORNER_ROOM;
    /** An arc from a node round to the same node tells that node twice. */
    private static final int ARC_POINT_ROOM = CORNER_ROOM + 1;
    private static final int SPAN = 200;
    private static final int BYTE_KINDS = 128;
    private static final int TAPE_ROOM = 320;
    private static final int IMAGE_ROOM = 2;
    private static final int SHEET_ROOM = 4;
    private static final int LANES = 3;
    private static final int CELL_ROOM = 40;
    private static final int READ_MOST = 13;
    private static final int SHAKE_MOST = 40;

    private static final int FAULT_BASE = -10;
    private static final int REFUSED_BASE = -20;
    private static final int FAULT_NULL = 1;
    private static final int FAULT_INDEX = 2;
    private static final int FAULT_CAST = 3;
    private static final int FAULT_SIZE = 4;

    private final Tape tape;
    private final Land land;
    private final Land draft;
    private final Land before;
    private final Reader reader;
    private final Arcs arcs;
    private final Stages stages;
    private final Land[] images;
    private final boolean[] stored;
    private final Sheet[] sheets;
    private int textFault;
    private int readFault;

    public SharedBorders() {
        tape = new Tape();
        land = new Land();
        draft = new Land();
        before = new Land();
        reader = new Reader(tape, draft);
        arcs = new Arcs(land);
        stages = new Stages(land);
        stored = new boolean[IMAGE_ROOM];
        images = new Land[IMAGE_ROOM];
        for (int k = 0; k < IMAGE_ROOM; k++) {
            images[k] = new Land();
        }
        sheets = new Sheet[SHEET_ROOM];
        for (int k = 0; k < SHEET_ROOM; k++) {
            sheets[k] = new Sheet();
        }
    }

    // ---- the text, what there is

    public int feed(int c) {
        if (!isBelow(c, BYTE_KINDS)) {
            return BAD;
        }
        if (tape.length >= TAPE_ROOM) {
            return FULL;
        }
        tape.append(c);
        return tape.length;
    }

    public int end(int n) {
        if (n < 0 || n > tape.length) {
            return BAD;
        }
        int had = tape.length;
        tape.length = n;
        return had;
    }

    public int text() {
        boolean taken = reader.readAll() && reader.judgeAll();
        tape.length = 0;
        textFault = reader.fault;
        if (!taken) {
            return FAULT_BASE - reader.faultPlace;
        }
        land.copyFrom(draft);
        forgetImages();
        refresh();
        return reader.lines;
    }

    public int fault() {
        return textFault;
    }

    public int rule(int what) {
        switch (what) {
            case 0: return land.points;
            case 1: return land.rings;
            case 2: return land.edges;
            case 3: return land.nodesWithEdges();
            case 4: return arcs.amount;
            case 5: return stages.last;
            case 6: return land.pointsWithEdges();
            case 7: return land.pinned();
            default: return BAD;
        }
    }

    public int point(int p, int what) {
        if (!isBelow(p, land.points)) {
            return BAD;
        }
        switch (what) {
            case 0: return land.xs[p];
            case 1: return land.ys[p];
            case 2: return land.degrees[p];
            case 3: return land.isNode(p) ? 1 : 0;
            case 4: return land.isNode(p) ? NONE : arcs.arcOf[p];
            case 5: return stages.goneAt[p] > 0 ? stages.goneAt[p] : NONE;
            case 6: return stages.goneAt[p] > 0 ? stages.triangles[stages.goneAt[p]] : NONE;
            case 7: return land.pins[p] ? 1 : 0;
            default: return BAD;
        }
    }

    public int ring(int r, int s, int what) {
        if (!isBelow(r, land.rings) || !isStage(s)) {
            return BAD;
        }
        Scene scene = stages.sceneAt(s);
        switch (what) {
            case 0: return scene.counts[r];
            case 1: return scene.areaOf(r);
            case 2: return scene.neighboursOf(r);
            default: return BAD;
        }
    }

    public int corner(int r, int s, int i) {
        if (!isBelow(r, land.rings) || !isStage(s)) {
            return BAD;
        }
        Scene scene = stages.sceneAt(s);
        return isBelow(i, scene.counts[r]) ? scene.rows[r][i] : BAD;
    }

    public int arc(int a, int what) {
        if (!isBelow(a, arcs.amount)) {
            return BAD;
        }
        switch (what) {
            case 0: return arcs.lengths[a];
            case 1: return arcs.firstOf(a);
            case 2: return arcs.lastOf(a);
            case 3: return arcs.ringsOf(a);
            default: return BAD;
        }
    }

    public int along(int a, int i, int what) {
        if (!isBelow(a, arcs.amount) || i < 0 || !isBelow(what, 2)) {
            return BAD;
        }
        if (what == 1) {
            return arcs.ringOf(a, i);
        }
        return i < arcs.lengths[a] ? arcs.rows[a][i] : NONE;
    }

    // ---- stages

    public int gone(int s) {
        return s == 0 || !isStage(s) ? BAD : stages.order[s];
    }

    public int left(int s) {
        return isStage(s) ? land.pointsWithEdges() - s : BAD;
    }

    public int edge(int p, int q, int s) {
        if (!isBelow(p, land.points) || !isBelow(q, land.points) || !isStage(s)) {
            return BAD;
        }
        return stages.sceneAt(s).usesOf(p, q);
    }

    public int why(int p, int s) {
        if (!isBelow(p, land.points) || !isStage(s)) {
            return BAD;
        }
        return stages.sceneAt(s).reasonOf(p);
    }

    public int size(int p, int s) {
        if (!isBelow(p, land.points) || !isStage(s)) {
            return BAD;
        }
        Scene scene = stages.sceneAt(s);
        return land.isNode(p) || !scene.there[p] ? NONE : scene.triangleOf(p);
    }

    public int keep(int n) {
        if (n < 0) {
            return BAD;
        }
        // Each stage has just one point less than the one ahead.
        int tooMany = Math.max(0, land.pointsWithEdges() - n);
        return tooMany <= stages.last ? tooMany : NONE;
    }

    public int limit(int a) {
        if (a < 0) {
            return BAD;
        }
        for (int s = 1; s <= stages.last; s++) {
            if (stages.triangles[s] > a) {
                return s - 1;
            }
        }
        return stages.last;
    }

    public int within(int x, int y, int s) {
        if (!isPlace(x, y) || !isStage(s)) {
            return BAD;
        }
        Scene scene = stages.sceneAt(s);
        for (int r = 0; r < land.rings; r++) {
            if (scene.isOnBorder(r, x, y)) {
                return STATE;
            }
        }
        for (int r = 0; r < land.rings; r++) {
            if (scene.holds(r, x, y)) {
                return r;
            }
        }
        return NONE;
    }

    // ---- changes

    public int move(int p, int x, int y) {
        int answer = shift(p, x, y);
        if (answer == 1) {
            refresh();
        }
        return answer;
    }

    public int pin(int p, int on) {
        if (!isBelow(p, land.points) || !isBelow(on, 2)) {
            return BAD;
        }
        int was = land.pins[p] ? 1 : 0;
        land.pins[p] = on == 1;
        refresh();
        return was;
    }

    public int shake(int seed, int n) {
        if (n < 1 || n > SHAKE_MOST) {
            return BAD;
        }
        if (land.points <= 0) {
            return STATE;
        }
        int drawn = seed;
        int came = 0;
        for (int i = 0; i < n; i++) {
            drawn = drawn * 1103515245 + 12345;
            int got = (drawn >>> 16) & 0x7fff;
            int p = got % land.points;
            int x = land.xs[p] + got / 32 % 5 - 2;
            int y = land.ys[p] + got / 256 % 5 - 2;
            if (shift(p, x, y) == 1) {
                came++;
            }
        }
        refresh();
        return came;
    }

    // ---- images, sheets

    public int store(int k) {
        if (!isBelow(k, IMAGE_ROOM)) {
            return BAD;
        }
        int was = stored[k] ? 1 : 0;
        images[k].copyFrom(land);
        stored[k] = true;
        return was;
    }

    public int back(int k) {
        if (!isBelow(k, IMAGE_ROOM)) {
            return BAD;
        }
        if (!stored[k]) {
            return STATE;
        }
        land.copyFrom(images[k]);
        refresh();
        return land.points;
    }

    public int sheet(int k, int lane, int n) {
        if (!isBelow(k, SHEET_ROOM) || !isBelow(lane, LANES) || n > CELL_ROOM) {
            return BAD;
        }
        if (n < 0) {
            return FAULT_BASE - FAULT_SIZE;
        }
        sheets[k].renew(lane, n);
        return 1;
    }

    public int lay(int k, int i, int v) {
        if (!isBelow(k, SHEET_ROOM)) {
            return BAD;
        }
        Sheet row = sheets[k];
        if (row.isNothing()) {
            return FAULT_BASE - FAULT_NULL;
        }
        if (!isBelow(i, row.length)) {
            return FAULT_BASE - FAULT_INDEX;
        }
        row.put(i, v);
        return 1;
    }

    public int read(int k, int lane, int f, int n) {
        if (!isBelow(k, SHEET_ROOM) || !isBelow(lane, LANES) || n < 0 || n > READ_MOST) {
            return BAD;
        }
        Sheet row = sheets[k];
        before.copyFrom(land);
        int found = 0;
        int came = 0;
        for (int i = 0; i < n; i++) {
            // A long, for f may be so high that an int would turn over.
            long from = (long) f + 3L * i;
            found = row.faultOfThree(lane, from);
            if (found != 0) {
                break;
            }
            int c = (int) from;
            if (shift(row.cells[c], row.cells[c + 1], row.cells[c + 2]) != 1) {
                land.copyFrom(before);
                return REFUSED_BASE - i;
            }
            came++;
        }
        readFault = found;
        refresh();
        return came;
    }

    public int torn() {
        return readFault;
    }

    public int count(int what) {
        switch (what) {
            case 0: return (stored[0] ? 1 : 0) + (stored[1] ? 1 : 0);
            case 1: return tape.length;
            case 2: return sheets[0].isNothing() ? NONE : sheets[0].length;
            case 3: return land.sumOf(land.xs);
            case 4: return land.sumOf(land.ys);
            default: return BAD;
        }
    }

    // ---- what the calls share

    private static boolean isBelow(int n, int bound) {
        return n >= 0 && n < bound;
    }

    private static boolean isPlace(int x, int y) {
        return isBelow(x, SPAN) && isBelow(y, SPAN);
    }

    private static int following(int i, int length) {
        return i + 1 < length ? i + 1 : 0;
    }

    private static int preceding(int i, int length) {
        return i > 0 ? i - 1 : length - 1;
    }

    /** Whether two points follow one another, whichever way, in a closed row of corners. */
    private static boolean areNext(int[] row, int length, int p, int q) {
        for (int i = 0; i < length; i++) {
            int next = row[following(i, length)];
            if (row[i] == p && next == q || row[i] == q && next == p) {
                return true;
            }
        }
        return false;
    }

    private boolean isStage(int s) {
        return s >= 0 && s <= stages.last;
    }

    private void forgetImages() {
        for (int k = 0; k < IMAGE_ROOM; k++) {
            stored[k] = false;
        }
    }

    private void refresh() {
        arcs.trace();
        stages.thin();
    }

    /** move() without what follows from it, so that many moves are followed by one refresh(). */
    private int shift(int p, int x, int y) {
        if (!isBelow(p, land.points) || !isPlace(x, y)) {
            return BAD;
        }
        return land.shiftIfFair(p, x, y) ? 1 : STATE;
    }

    /** The bytes that a text is made of. */
    private static final class Tape {
        final byte[] bytes = new byte[TAPE_ROOM];
        int length;

        void append(int c) {
            if (length < TAPE_ROOM) {
                bytes[length] = (byte) c;
                length++;
            }
        }
    }

    /** Points, rings and pins, and the edges that the rings have. */
    private static final class Land {
        final int[] xs = new int[POINT_ROOM];
        final int[] ys = new int[POINT_ROOM];
        final boolean[] pins = new boolean[POINT_ROOM];
        final int[][] corners = new int[RING_ROOM][CORNER_ROOM];
        final int[] lengths = new int[RING_ROOM];
        final int[] firsts = new int[EDGE_ROOM];
        final int[] seconds = new int[EDGE_ROOM];
        final int[] uses = new int[EDGE_ROOM];
        final int[] degrees = new int[POINT_ROOM];
        int points;
        int rings;
        int edges;

        void clear() {
            points = 0;
            rings = 0;
            for (int p = 0; p < POINT_ROOM; p++) {
                pins[p] = false;
            }
        }

        void copyFrom(Land other) {
            points = other.points;
            rings = other.rings;
            edges = other.edges;
            System.arraycopy(other.xs, 0, xs, 0, POINT_ROOM);
            System.arraycopy(other.ys, 0, ys, 0, POINT_ROOM);
            for (int p = 0; p < POINT_ROOM; p++) {
                pins[p] = other.pins[p];
            }
            System.arraycopy(other.degrees, 0, degrees, 0, POINT_ROOM);
            System.arraycopy(other.lengths, 0, lengths, 0, RING_ROOM);
            for (int r = 0; r < RING_ROOM; r++) {
                System.arraycopy(other.corners[r], 0, corners[r], 0, CORNER_ROOM);
            }
            System.arraycopy(other.firsts, 0, firsts, 0, EDGE_ROOM);
            System.arraycopy(other.seconds, 0, seconds, 0, EDGE_ROOM);
            System.arraycopy(other.uses, 0, uses, 0, EDGE_ROOM);
        }

        void addPoint(int x, int y) {
            if (points < POINT_ROOM) {
                xs[points] = x;
                ys[points] = y;
                points++;
            }
        }

        void openRing() {
            if (rings < RING_ROOM) {
                lengths[rings] = 0;
                rings++;
            }
        }

        void addCorner(int p) {
            int r = rings - 1;
            if (r >= 0 && lengths[r] < CORNER_ROOM) {
                corners[r][lengths[r]] = p;
                lengths[r]++;
            }
        }

        boolean newestRingHas(int p) {
            int r = rings - 1;
            for (int i = 0; r >= 0 && i < lengths[r]; i++) {
                if (corners[r][i] == p) {
                    return true;
                }
            }
            return false;
        }

        /** Whether rings and pins tell of no point that there is not. */
        boolean isWhole() {
            for (int p = points; p < POINT_ROOM; p++) {
                if (pins[p]) {
                    return false;
                }
            }
            for (int r = 0; r < rings; r++) {
                for (int i = 0; i < lengths[r]; i++) {
                    if (corners[r][i] >= points) {
                        return false;
                    }
                }
            }
            return true;
        }

        void gatherEdges() {
            edges = 0;
            for (int p = 0; p < POINT_ROOM; p++) {
                degrees[p] = 0;
            }
            for (int r = 0; r < rings; r++) {
                for (int i = 0; i < lengths[r]; i++) {
                    noteEdge(corners[r][i], corners[r][following(i, lengths[r])]);
                }
            }
        }

        private void noteEdge(int p, int q) {
            int e = edgeBetween(p, q);
            if (e >= 0) {
                uses[e]++;
            } else if (edges < EDGE_ROOM) {
                firsts[edges] = p;
                seconds[edges] = q;
                uses[edges] = 1;
                edges++;
                degrees[p]++;
                degrees[q]++;
            }
        }

        /** The edge's number among all edges; -1: these two are none. */
        int edgeBetween(int p, int q) {
            for (int e = 0; e < edges; e++) {
                if (firsts[e] == p && seconds[e] == q || firsts[e] == q && seconds[e] == p) {
                    return e;
                }
            }
            return -1;
        }

        boolean isNode(int p) {
            return pins[p] || degrees[p] != 2;
        }

        int nodesWithEdges() {
            int found = 0;
            for (int p = 0; p < points; p++) {
                if (degrees[p] > 0 && isNode(p)) {
                    found++;
                }
            }
            return found;
        }

        int pointsWithEdges() {
            int found = 0;
            for (int p = 0; p < points; p++) {
                if (degrees[p] > 0) {
                    found++;
                }
            }
            return found;
        }

        int pinned() {
            int found = 0;
            for (int p = 0; p < points; p++) {
                if (pins[p]) {
                    found++;
                }
            }
            return found;
        }

        int sumOf(int[] places) {
            int sum = 0;
            for (int p = 0; p < points; p++) {
                sum += places[p];
            }
            return sum;
        }

        boolean shiftIfFair(int p, int x, int y) {
            int oldX = xs[p];
            int oldY = ys[p];
            xs[p] = x;
            ys[p] = y;
            // What this point has no part in is as fair as it was.
            if (isFairAround(p) && areasStand()) {
                return true;
            }
            xs[p] = oldX;
            ys[p] = oldY;
            return false;
        }

        boolean isFair() {
            for (int e = 0; e < edges; e++) {
                if (uses[e] > 2) {
                    return false;
                }
            }
            for (int p = 0; p < points; p++) {
                if (!isFairAround(p)) {
                    return false;
                }
            }
            return areasStand();
        }

        private boolean areasStand() {
            for (int r = 0; r < rings; r++) {
                if (areaOf(corners[r], lengths[r]) == 0) {
                    return false;
                }
            }
            return true;
        }

        private boolean isFairAround(int p) {
            for (int q = 0; q < points; q++) {
                if (q != p && xs[q] == xs[p] && ys[q] == ys[p]) {
                    return false;
                }
            }
            for (int e = 0; e < edges; e++) {
                if (ends(e, p) ? !isClear(e) : isOn(firsts[e], seconds[e], xs[p], ys[p])) {
                    return false;
                }
            }
            return true;
        }

        private boolean ends(int e, int p) {
            return firsts[e] == p || seconds[e] == p;
        }

        /**
         * Whether no other point is on this edge and no other edge crosses it. Edges that share
         * an end need no look: where they fall together, an end of one is on the other.
         */
        private boolean isClear(int e) {
            int a = firsts[e];
            int b = seconds[e];
            for (int p = 0; p < points; p++) {
                if (p != a && p != b && isOn(a, b, xs[p], ys[p])) {
                    return false;
                }
            }
            for (int g = 0; g < edges; g++) {
                if (!ends(g, a) && !ends(g, b) && cross(a, b, firsts[g], seconds[g])) {
                    return false;
                }
            }
            return true;
        }

        /** Twice the triangle of two points and a place; its sign tells the side. */
        int sideOf(int a, int b, int x, int y) {
            return (xs[b] - xs[a]) * (y - ys[a]) - (ys[b] - ys[a]) * (x - xs[a]);
        }

        boolean isOn(int a, int b, int x, int y) {
            return sideOf(a, b, x, y) == 0
                && x >= Math.min(xs[a], xs[b]) && x <= Math.max(xs[a], xs[b])
                && y >= Math.min(ys[a], ys[b]) && y <= Math.max(ys[a], ys[b]);
        }

        private boolean cross(int a, int b, int c, int d) {
            return areOpposite(sideOf(a, b, xs[c], ys[c]), sideOf(a, b, xs[d], ys[d]))
                && areOpposite(sideOf(c, d, xs[a], ys[a]), sideOf(c, d, xs[b], ys[b]));
        }

        private static boolean areOpposite(int m, int n) {
            return m < 0 && n > 0 || m > 0 && n < 0;
        }

        /**
         * Whether a place is in a triangle of points or on its border. A flat triangle has its
         * whole line on no side: there the frame tells.
         */
        boolean isInTriangle(int a, int b, int c, int x, int y) {
            int m = sideOf(a, b, x, y);
            int n = sideOf(b, c, x, y);
            int o = sideOf(c, a, x, y);
            boolean mixed = (m < 0 || n < 0 || o < 0) && (m > 0 || n > 0 || o > 0);
            return !mixed && isInFrame(xs[a], xs[b], xs[c], x) && isInFrame(ys[a], ys[b], ys[c], y);
        }

        private static boolean isInFrame(int a, int b, int c, int v) {
            return (v >= a || v >= b || v >= c) && (v <= a || v <= b || v <= c);
        }

        int areaOf(int[] row, int length) {
            int sum = 0;
            for (int i = 0; i < length; i++) {
                int p = row[i];
                int q = row[following(i, length)];
                sum += xs[p] * ys[q] - xs[q] * ys[p];
            }
            return sum;
        }
    }

    /** Reads the tape into a draft, token by token, up to the first fault. */
    private static final class Reader {
        private static final int AT_END = 0;
        private static final int NAME = 1;
        private static final int NUMBER = 2;
        private static final int SEMICOLON = 3;
        private static final int NO_TOKEN = 4;
        private static final int MOST_FIGURES = 3;
        private static final String POINT_NAME = "point";
        private static final String RING_NAME = "ring";
        private static final String PIN_NAME = "pin";

        final Tape tape;
        final Land draft;
        int place;
        int kind;
        int start;
        int value;
        int fault;
        int faultPlace;
        int lines;

        Reader(Tape tape, Land draft) {
            this.tape = tape;
            this.draft = draft;
        }

        /** Whether the tape tells lines and nothing else. */
        boolean readAll() {
            draft.clear();
            place = 0;
            fault = 0;
            faultPlace = 0;
            lines = 0;
            // No line is shorter than a byte.
            for (int n = 0; n <= TAPE_ROOM; n++) {
                nextToken();
                if (kind == AT_END) {
                    return true;
                }
                if (!readLine()) {
                    return false;
                }
                lines++;
            }
            return false;
        }

        /** Whether what the lines tell may come. */
        boolean judgeAll() {
            if (!draft.isWhole()) {
                return refuse(6, tape.length);
            }
            draft.gatherEdges();
            return draft.isFair() || refuse(6, tape.length);
        }

        private boolean refuse(int what, int where) {
            fault = what;
            faultPlace = where;
            return false;
        }

        private boolean refuseToken() {
            return refuse(kind == NO_TOKEN ? 1 : 2, start);
        }

        private boolean readLine() {
            if (nameIs(POINT_NAME)) {
                return readPoint();
            }
            if (nameIs(RING_NAME)) {
                return readRing();
            }
            if (nameIs(PIN_NAME)) {
                return readPin();
            }
            return refuseToken();
        }

        private boolean readPoint() {
            if (draft.points >= POINT_ROOM) {
                return refuse(5, start);
            }
            if (!readNumber(SPAN)) {
                return false;
            }
            int x = value;
            if (!readNumber(SPAN)) {
                return false;
            }
            draft.addPoint(x, value);
            return readSemicolon();
        }

        private boolean readRing() {
            if (draft.rings >= RING_ROOM) {
                return refuse(5, start);
            }
            draft.openRing();
            for (int i = 0; i <= CORNER_ROOM; i++) {
                nextToken();
                if (kind == SEMICOLON && i >= LEAST_CORNERS) {
                    return true;
                }
                if (!takeCorner(i)) {
                    return false;
                }
            }
            return false;
        }

        private boolean takeCorner(int i) {
            if (kind != NUMBER) {
                return refuseToken();
            }
            if (i >= CORNER_ROOM) {
                return refuse(5, start);
            }
            if (value >= POINT_ROOM) {
                return refuse(3, start);
            }
            if (draft.newestRingHas(value)) {
                return refuse(4, start);
            }
            draft.addCorner(value);
            return true;
        }

        private boolean readPin() {
            if (!readNumber(POINT_ROOM)) {
                return false;
            }
            if (isBelow(value, POINT_ROOM)) {
                draft.pins[value] = true;
            }
            return readSemicolon();
        }

        private boolean readNumber(int bound) {
            nextToken();
            if (kind != NUMBER) {
                return refuseToken();
            }
            return value < bound || refuse(3, start);
        }

        private boolean readSemicolon() {
            nextToken();
            return kind == SEMICOLON || refuseToken();
        }

        private void nextToken() {
            while (place < tape.length && tape.bytes[place] == ' ') {
                place++;
            }
            start = place;
            kind = place < tape.length ? kindOf(tape.bytes[place]) : AT_END;
            if (kind == NAME || kind == NUMBER) {
                while (place < tape.length && kindOf(tape.bytes[place]) == kind) {
                    place++;
                }
            } else if (kind == SEMICOLON) {
                place++;
            }
            if (kind == NUMBER) {
                weighNumber();
            }
        }

        private void weighNumber() {
            if (place - start > MOST_FIGURES) {
                kind = NO_TOKEN;
                return;
            }
            value = 0;
            for (int i = start; i < place; i++) {
                value = value * 10 + tape.bytes[i] - '0';
            }
        }

        private static int kindOf(int c) {
            if (c >= 'a' && c <= 'z') {
                return NAME;
            }
            if (c >= '0' && c <= '9') {
                return NUMBER;
            }
            return c == ';' ? SEMICOLON : NO_TOKEN;
        }

        private boolean nameIs(String name) {
            if (kind != NAME || place - start != name.length()) {
                return false;
            }
            for (int i = 0; i < name.length(); i++) {
                if (tape.bytes[start + i] != name.charAt(i)) {
                    return false;
                }
            }
            return true;
        }
    }

    /** The borders cut where they meet, or where a point is pinned. */
    private static final class Arcs {
        final Land land;
        final int[][] rows = new int[EDGE_ROOM][ARC_POINT_ROOM];
        final int[] lengths = new int[EDGE_ROOM];
        final int[] arcOf = new int[POINT_ROOM];
        final boolean[] taken = new boolean[EDGE_ROOM];
        int amount;

        Arcs(Land land) {
            this.land = land;
        }

        void trace() {
            amount = 0;
            for (int e = 0; e < EDGE_ROOM; e++) {
                taken[e] = false;
            }
            for (int r = 0; r < land.rings; r++) {
                for (int i = 0; i < land.lengths[r]; i++) {
                    int e = edgeBehind(r, i);
                    if (e >= 0 && !taken[e] && amount < EDGE_ROOM) {
                        traceArc(r, i);
                    }
                }
            }
        }

        /** The edge from a ring's i-th corner to the next one. */
        private int edgeBehind(int r, int i) {
            int[] row = land.corners[r];
            return land.edgeBetween(row[i], row[following(i, land.lengths[r])]);
        }

        private void traceArc(int r, int i) {
            int length = land.lengths[r];
            int begin = nodeAhead(r, i);
            boolean closed = begin < 0;
            int at = closed ? 0 : begin;
            lengths[amount] = 0;
            append(land.corners[r][at]);
            for (int step = 1; step <= length; step++) {
                int e = edgeBehind(r, at);
                if (e >= 0) {
                    taken[e] = true;
                }
                at = following(at, length);
                if (closed && step == length) {
                    break;
                }
                append(land.corners[r][at]);
                if (land.isNode(land.corners[r][at])) {
                    break;
                }
            }
            amount++;
        }

        /** The place of the last node up to a ring's i-th corner, round the ring; -1: no node. */
        private int nodeAhead(int r, int i) {
            int at = i;
            for (int step = 0; step < land.lengths[r]; step++) {
                if (land.isNode(land.corners[r][at])) {
                    return at;
                }
                at = preceding(at, land.lengths[r]);
            }
            return -1;
        }

        private void append(int p) {
            if (lengths[amount] < ARC_POINT_ROOM) {
                rows[amount][lengths[amount]] = p;
                lengths[amount]++;
                arcOf[p] = amount;
            }
        }

        int firstOf(int a) {
            return rows[a][0];
        }

        int lastOf(int a) {
            int end = lengths[a] - 1;
            // An arc that does not end at a node is closed.
            return end > 0 && land.isNode(rows[a][end]) ? rows[a][end] : rows[a][0];
        }

        int ringsOf(int a) {
            int e = land.edgeBetween(rows[a][0], rows[a][1]);
            return e >= 0 ? land.uses[e] : 0;
        }

        /** The i-th ring by number that has the arc: all rings with its first edge have it whole. */
        int ringOf(int a, int i) {
            int found = 0;
            for (int r = 0; r < land.rings; r++) {
                if (ringHas(r, rows[a][0], rows[a][1])) {
                    if (found == i) {
                        return r;
                    }
                    found++;
                }
            }
            return NONE;
        }

        private boolean ringHas(int r, int p, int q) {
            return areNext(land.corners[r], land.lengths[r], p, q);
        }
    }

    /** The rings as they are at one stage. */
    private static final class Scene {
        final Land land;
        final int[][] rows = new int[RING_ROOM][CORNER_ROOM];
        final int[] counts = new int[RING_ROOM];
        final boolean[] there = new boolean[POINT_ROOM];
        private final int[] spare = new int[CORNER_ROOM];

        Scene(Land land) {
            this.land = land;
        }

        void showAll() {
            for (int r = 0; r < land.rings; r++) {
                counts[r] = land.lengths[r];
                System.arraycopy(land.corners[r], 0, rows[r], 0, CORNER_ROOM);
            }
            for (int p = 0; p < POINT_ROOM; p++) {
                there[p] = p < land.points;
            }
        }

        void dropPoint(int p) {
            there[p] = false;
            for (int r = 0; r < land.rings; r++) {
                counts[r] = copyWithout(r, p, rows[r]);
            }
        }

        /** Writes a ring's corners but one; source and target may be one row. How many there are. */
        private int copyWithout(int r, int p, int[] target) {
            int kept = 0;
            for (int i = 0; i < counts[r]; i++) {
                if (rows[r][i] != p) {
                    target[kept] = rows[r][i];
                    kept++;
                }
            }
            return kept;
        }

        private int indexIn(int r, int p) {
            for (int i = 0; i < counts[r]; i++) {
                if (rows[r][i] == p) {
                    return i;
                }
            }
            return -1;
        }

        private int ringWith(int p) {
            for (int r = 0; r < land.rings; r++) {
                if (indexIn(r, p) >= 0) {
                    return r;
                }
            }
            return -1;
        }

        int areaOf(int r) {
            return land.areaOf(rows[r], counts[r]);
        }

        int usesOf(int p, int q) {
            int found = 0;
            for (int r = 0; r < land.rings; r++) {
                if (areNext(rows[r], counts[r], p, q)) {
                    found++;
                }
            }
            return found;
        }

        int neighboursOf(int r) {
            int found = 0;
            for (int other = 0; other < land.rings; other++) {
                if (other != r && shareEdge(r, other)) {
                    found++;
                }
            }
            return found;
        }

        private boolean shareEdge(int r, int other) {
            for (int i = 0; i < counts[r]; i++) {
                int next = rows[r][following(i, counts[r])];
                if (areNext(rows[other], counts[other], rows[r][i], next)) {
                    return true;
                }
            }
            return false;
        }

        /** Of a point that ends two edges its neighbour on one side; -1: it is in no ring. */
        private int ahead(int p) {
            int r = ringWith(p);
            return r < 0 ? -1 : rows[r][preceding(indexIn(r, p), counts[r])];
        }

        private int behind(int p) {
            int r = ringWith(p);
            return r < 0 ? -1 : rows[r][following(indexIn(r, p), counts[r])];
        }

        int triangleOf(int p) {
            int a = ahead(p);
            int b = behind(p);
            return a < 0 || b < 0 ? 0 : Math.abs(land.sideOf(a, b, land.xs[p], land.ys[p]));
        }

        /** Why a point may not go: 1 to 5; 0: it may. */
        int reasonOf(int p) {
            if (land.isNode(p) || !there[p]) {
                return 1;
            }
            int a = ahead(p);
            int b = behind(p);
            if (a < 0 || b < 0) {
                return 1;
            }
            if (usesOf(a, b) > 0) {
                return 2;
            }
            if (isInLeastRing(p)) {
                return 3;
            }
            if (someoneLiesIn(a, p, b)) {
                return 4;
            }
            return wouldTurnOver(p) ? 5 : 0;
        }

        private boolean isInLeastRing(int p) {
            for (int r = 0; r < land.rings; r++) {
                if (counts[r] <= LEAST_CORNERS && indexIn(r, p) >= 0) {
                    return true;
                }
            }
            return false;
        }

        private boolean someoneLiesIn(int a, int p, int b) {
            for (int q = 0; q < land.points; q++) {
                if (there[q] && q != a && q != p && q != b
                    && land.isInTriangle(a, p, b, land.xs[q], land.ys[q])) {
                    return true;
                }
            }
            return false;
        }

        private boolean wouldTurnOver(int p) {
            for (int r = 0; r < land.rings; r++) {
                int kept = copyWithout(r, p, spare);
                if (kept < counts[r] && Integer.signum(land.areaOf(spare, kept))
                    != Integer.signum(land.areaOf(rows[r], counts[r]))) {
                    return true;
                }
            }
            return false;
        }

        boolean isOnBorder(int r, int x, int y) {
            for (int i = 0; i < counts[r]; i++) {
                if (land.isOn(rows[r][i], rows[r][following(i, counts[r])], x, y)) {
                    return true;
                }
            }
            return false;
        }

        /** Whether a place that is on no border lies within: a ray from it meets an odd number of edges. */
        boolean holds(int r, int x, int y) {
            boolean inside = false;
            for (int i = 0; i < counts[r]; i++) {
                int p = rows[r][i];
                int q = rows[r][following(i, counts[r])];
                boolean rises = land.ys[p] <= y && land.ys[q] > y;
                boolean falls = land.ys[q] <= y && land.ys[p] > y;
                int side = land.sideOf(p, q, x, y);
                if (rises && side > 0 || falls && side < 0) {
                    inside = !inside;
                }
            }
            return inside;
        }
    }

    /** Which point goes at which stage. */
    private static final class Stages {
        final Land land;
        final int[] order = new int[POINT_ROOM + 1];
        final int[] triangles = new int[POINT_ROOM + 1];
        final int[] goneAt = new int[POINT_ROOM];
        int last;
        private final Scene scene;

        Stages(Land land) {
            this.land = land;
            this.scene = new Scene(land);
        }

        void thin() {
            last = 0;
            for (int p = 0; p < POINT_ROOM; p++) {
                goneAt[p] = 0;
            }
            scene.showAll();
            for (int s = 1; s <= POINT_ROOM; s++) {
                int best = -1;
                int least = 0;
                for (int p = 0; p < land.points; p++) {
                    int triangle = scene.triangleOf(p);
                    if ((best < 0 || triangle < least) && scene.reasonOf(p) == 0) {
                        best = p;
                        least = triangle;
                    }
                }
                if (best < 0) {
                    break;
                }
                noteGone(best, s, least);
            }
        }

        private void noteGone(int p, int s, int triangle) {
            last = s;
            order[s] = p;
            triangles[s] = triangle;
            goneAt[p] = s;
            scene.dropPoint(p);
        }

        Scene sceneAt(int s) {
            scene.showAll();
            for (int i = 1; i <= s && i <= last; i++) {
                scene.dropPoint(order[i]);
            }
            return scene;
        }
    }

    /** A row of cells of one lane, or nothing. */
    private static final class Sheet {
        private static final int NO_LANE = -1;
        final int[] cells = new int[CELL_ROOM];
        int lane = NO_LANE;
        int length;

        boolean isNothing() {
            return lane == NO_LANE;
        }

        void renew(int newLane, int newLength) {
            lane = newLane;
            length = newLength;
            for (int i = 0; i < CELL_ROOM; i++) {
                cells[i] = 0;
            }
        }

        void put(int i, int v) {
            switch (lane) {
                case 0: cells[i] = (byte) v; break;
                case 1: cells[i] = (short) v; break;
                default: cells[i] = v; break;
            }
        }

        /** What the machine would find, were three cells read as of a lane; 0: nothing. */
        int faultOfThree(int asLane, long from) {
            if (isNothing()) {
                return FAULT_NULL;
            }
            if (lane != asLane) {
                return FAULT_CAST;
            }
            return from < 0 || from + 2 >= length ? FAULT_INDEX : 0;
        }
    }
}

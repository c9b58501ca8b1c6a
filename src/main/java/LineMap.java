import java.util.Arrays;

/** A drawer of line maps on a small grid; ../shared/DOC.md says what each call promises. */
public final class LineMap {
    public static final int NONE = -1;

    private static final int BAD_NUMBER = -1;
    private static final int UNKNOWN = -2;
    private static final int TWICE = -4;
    private static final int NO_ROOM = -5;
    private static final int NOT_ALLOWED = -6;

    private static final int MOST_STATIONS = 10;
    private static final int MOST_LINES = 6;
    private static final int MOST_EDGES = 45;
    private static final int FARTHEST = 1000;
    private static final int MOST_WEIGHT = 100;
    private static final int MOST_SIGNS = 12;
    private static final int MOST_CHANGES = 50;
    private static final int IMAGES = 3;

    private static final int BEST_STATIONS = 5;
    private static final int BEST_POINTS = 25;

    private static final int[] STEP_X = {1, 1, 0, -1, -1, -1, 0, 1};
    private static final int[] STEP_Y = {0, 1, 1, 1, 0, -1, -1, -1};

    private final Net net;
    private final Plan plan;
    private final Terms terms;
    private final Law law;
    private final Price price;
    private final Search search;
    private final Names names;
    private final Plan[] images;
    private final boolean[] isImageKept;
    private int refusal;

    public LineMap() {
        net = new Net();
        plan = new Plan();
        terms = new Terms();
        law = new Law(net, plan, terms);
        price = new Price(net, plan, terms);
        search = new Search(net, terms);
        names = new Names(net, plan);
        images = new Plan[IMAGES];
        for (int k = 0; k < IMAGES; k++) {
            images[k] = new Plan();
        }
        isImageKept = new boolean[IMAGES];
        refusal = 0;
    }

    public int station(int x, int y) {
        if (!isWithin(x, 0, FARTHEST) || !isWithin(y, 0, FARTHEST)) {
            return refuse(BAD_NUMBER);
        }
        if (net.hasStationAt(x, y)) {
            return refuse(TWICE);
        }
        if (net.stations >= MOST_STATIONS) {
            return refuse(NO_ROOM);
        }
        return accept(net.addStation(x, y));
    }

    public int line() {
        if (net.lines >= MOST_LINES) {
            return refuse(NO_ROOM);
        }
        return accept(net.addLine());
    }

    public int lead(int line, int station) {
        if (!net.isLine(line) || !net.isStation(station)) {
            return refuse(UNKNOWN);
        }
        if (net.rank[line][station] != NONE) {
            return refuse(TWICE);
        }
        if (net.size[line] >= MOST_STATIONS) {
            return refuse(NO_ROOM);
        }
        return accept(net.extend(line, station));
    }

    public int of(int line, int i) {
        if (!net.isLine(line)) {
            return NONE;
        }
        if (i == NONE) {
            return net.size[line];
        }
        return isWithin(i, 0, net.size[line] - 1) ? net.row[line][i] : NONE;
    }

    public int edge(int edge, int what) {
        if (edge == NONE && what == 0) {
            return net.edges;
        }
        if (!isWithin(edge, 0, net.edges - 1)) {
            return NONE;
        }
        switch (what) {
            case 0:
                return net.low[edge];
            case 1:
                return net.high[edge];
            case 2:
                return net.heading[edge];
            default:
                return NONE;
        }
    }

    public int round(int station, int i) {
        if (!net.isStation(station)) {
            return NONE;
        }
        if (i == NONE) {
            return net.degree[station];
        }
        return isWithin(i, 0, net.degree[station] - 1) ? net.ring[station][i] : NONE;
    }

    public int grid(int w, int h) {
        if (!isWithin(w, 2, 8) || !isWithin(h, 2, 8)) {
            return refuse(BAD_NUMBER);
        }
        plan.begin(w, h);
        return accept(0);
    }

    public int span(int n) {
        if (!isWithin(n, 1, 4)) {
            return refuse(BAD_NUMBER);
        }
        int old = terms.least;
        terms.least = n;
        return accept(old);
    }

    public int terms(int bend, int way, int turn) {
        if (!isWeight(bend) || !isWeight(way) || !isWeight(turn)) {
            return refuse(BAD_NUMBER);
        }
        terms.perBend = bend;
        terms.perLength = way;
        terms.perTurn = turn;
        return accept(0);
    }

    public int place(int station, int x, int y) {
        if (!isWithin(x, 0, plan.w - 1) || !isWithin(y, 0, plan.h - 1)) {
            return refuse(BAD_NUMBER);
        }
        if (!net.isStation(station)) {
            return refuse(UNKNOWN);
        }
        if (plan.held[station]) {
            return refuse(NOT_ALLOWED);
        }
        plan.move(station, y * plan.w + x);
        return accept(0);
    }

    public int point(int station) {
        return net.isStation(station) ? plan.where(station) : NONE;
    }

    public int hold(int station, boolean is) {
        if (!net.isStation(station) || !plan.isPlaced(station)) {
            return refuse(UNKNOWN);
        }
        plan.held[station] = is;
        return accept(0);
    }

    public int why(int what) {
        if (!isWithin(what, 0, 2)) {
            return BAD_NUMBER;
        }
        law.examine();
        if (what == 0) {
            return law.fault;
        }
        return what == 1 ? law.first : law.second;
    }

    public int cost(int what) {
        if (!isWithin(what, 0, 3)) {
            return BAD_NUMBER;
        }
        if (!law.isAllowed()) {
            return NOT_ALLOWED;
        }
        switch (what) {
            case 1:
                return price.bends();
            case 2:
                return price.lengths();
            case 3:
                return price.turns();
            default:
                return price.total();
        }
    }

    public int best() {
        if (net.stations > BEST_STATIONS || plan.points() > BEST_POINTS) {
            return refuse(NO_ROOM);
        }
        int least = search.findLeast(plan);
        return least == NONE ? refuse(NOT_ALLOWED) : accept(least);
    }

    public int better() {
        if (!law.isAllowed()) {
            return refuse(NOT_ALLOWED);
        }
        int changes = 0;
        while (changes < MOST_CHANGES && makeBestChange()) {
            changes++;
        }
        return accept(changes);
    }

    public int name(int station, int n) {
        if (!isWithin(n, 0, MOST_SIGNS)) {
            return refuse(BAD_NUMBER);
        }
        if (!net.isStation(station)) {
            return refuse(UNKNOWN);
        }
        int old = names.signs[station];
        names.signs[station] = n;
        return accept(old);
    }

    public int put() {
        if (!law.isAllowed()) {
            return refuse(NOT_ALLOWED);
        }
        return accept(names.putAll());
    }

    public int named(int station, int what) {
        if (!net.isStation(station)) {
            return NONE;
        }
        if (what == 0) {
            return names.side[station];
        }
        return what == 1 ? names.hindrance[station] : NONE;
    }

    public int image(int k) {
        if (!isWithin(k, 0, IMAGES - 1)) {
            return refuse(BAD_NUMBER);
        }
        images[k].copy(plan);
        isImageKept[k] = true;
        return accept(0);
    }

    public int back(int k) {
        if (!isWithin(k, 0, IMAGES - 1)) {
            return refuse(BAD_NUMBER);
        }
        if (!isImageKept[k]) {
            return refuse(NOT_ALLOWED);
        }
        plan.copy(images[k]);
        return accept(0);
    }

    public int count(int what) {
        switch (what) {
            case 0:
                return net.stations;
            case 1:
                return net.lines;
            case 2:
                return plan.countPlaced();
            case 3:
                return plan.countHeld();
            case 4:
                return plan.w;
            case 5:
                return plan.h;
            case 6:
                return terms.least;
            default:
                return NONE;
        }
    }

    public int status() {
        return refusal;
    }

    private int refuse(int reason) {
        refusal = reason;
        return reason;
    }

    private int accept(int answer) {
        refusal = 0;
        return answer;
    }

    private static boolean isWithin(int n, int lowest, int highest) {
        return n >= lowest && n <= highest;
    }

    private static boolean isWeight(int n) {
        return isWithin(n, 0, MOST_WEIGHT);
    }

    private boolean makeBestChange() {
        int mostGain = 0;
        int mover = NONE;
        int target = NONE;
        for (int s = 0; s < net.stations; s++) {
            // a station without edges costs the same wherever it stands
            if (plan.held[s] || net.degree[s] == 0) {
                continue;
            }
            int home = plan.where(s);
            int before = price.around(s);
            for (int p = 0; p < plan.points(); p++) {
                plan.move(s, p);
                int gain = law.areEdgesGood(s) ? before - price.around(s) : 0;
                // the gain is looked at ahead of the full test because it mostly decides
                if (gain > mostGain && law.fits(s)) {
                    mostGain = gain;
                    mover = s;
                    target = p;
                }
            }
            plan.move(s, home);
        }
        if (mover == NONE) {
            return false;
        }
        plan.move(mover, target);
        return true;
    }

    /** Stations at their true places, lines, and the edges and rings that follow from them. */
    private static final class Net {
        int stations;
        int lines;
        int edges;
        final int[] x = new int[MOST_STATIONS];
        final int[] y = new int[MOST_STATIONS];
        final int[] size = new int[MOST_LINES];
        final int[][] row = new int[MOST_LINES][MOST_STATIONS];
        final int[][] rank = new int[MOST_LINES][MOST_STATIONS];
        final int[] low = new int[MOST_EDGES];
        final int[] high = new int[MOST_EDGES];
        final int[] heading = new int[MOST_EDGES];
        final int[] degree = new int[MOST_STATIONS];
        final int[][] ring = new int[MOST_STATIONS][MOST_STATIONS];
        final int[][] edgeOf = new int[MOST_STATIONS][MOST_STATIONS];

        Net() {
            for (int l = 0; l < MOST_LINES; l++) {
                Arrays.fill(rank[l], NONE);
            }
            for (int s = 0; s < MOST_STATIONS; s++) {
                Arrays.fill(edgeOf[s], NONE);
            }
        }

        boolean isStation(int s) {
            return s >= 0 && s < stations;
        }

        boolean isLine(int l) {
            return l >= 0 && l < lines;
        }

        boolean hasStationAt(int atX, int atY) {
            for (int s = 0; s < stations; s++) {
                if (x[s] == atX && y[s] == atY) {
                    return true;
                }
            }
            return false;
        }

        int addStation(int atX, int atY) {
            x[stations] = atX;
            y[stations] = atY;
            stations++;
            return stations - 1;
        }

        int addLine() {
            lines++;
            return lines - 1;
        }

        int extend(int l, int s) {
            int length = size[l];
            row[l][length] = s;
            rank[l][s] = length;
            size[l] = length + 1;
            if (length > 0 && edgeOf[row[l][length - 1]][s] == NONE) {
                join(row[l][length - 1], s);
            }
            return length + 1;
        }

        private void join(int a, int b) {
            // any number but NONE will do: numberEdges gives the right one
            edgeOf[a][b] = 0;
            edgeOf[b][a] = 0;
            numberEdges();
            addToRing(a, b);
            addToRing(b, a);
        }

        private void numberEdges() {
            edges = 0;
            for (int a = 0; a < stations; a++) {
                for (int b = a + 1; b < stations; b++) {
                    if (edgeOf[a][b] != NONE && edges < MOST_EDGES) {
                        edgeOf[a][b] = edges;
                        edgeOf[b][a] = edges;
                        low[edges] = a;
                        high[edges] = b;
                        heading[edges] = trueDirection(x[b] - x[a], y[b] - y[a]);
                        edges++;
                    }
                }
            }
        }

        private static int trueDirection(int stepX, int stepY) {
            int far = Math.abs(stepX);
            int tall = Math.abs(stepY);
            if (1000 * tall < 414 * far) {
                return stepX < 0 ? 4 : 0;
            }
            if (1000 * far < 414 * tall) {
                return stepY < 0 ? 6 : 2;
            }
            if (stepY > 0) {
                return stepX > 0 ? 1 : 3;
            }
            return stepX < 0 ? 5 : 7;
        }

        private void addToRing(int s, int n) {
            int i = degree[s];
            while (i > 0 && comesBefore(s, n, ring[s][i - 1])) {
                ring[s][i] = ring[s][i - 1];
                i--;
            }
            ring[s][i] = n;
            degree[s]++;
        }

        private boolean comesBefore(int s, int a, int b) {
            int ax = x[a] - x[s];
            int ay = y[a] - y[s];
            int bx = x[b] - x[s];
            int by = y[b] - y[s];
            int halfA = half(ax, ay);
            int halfB = half(bx, by);
            if (halfA != halfB) {
                return halfA < halfB;
            }
            int cross = ax * by - ay * bx;
            return cross == 0 ? a < b : cross > 0;
        }

        // within one half of the round the sign of a cross product tells the lesser angle
        private static int half(int x, int y) {
            return y > 0 || y == 0 && x > 0 ? 0 : 1;
        }
    }

    /** The grid, the points of stations on it, and which of them are held. */
    private static final class Plan {
        int w;
        int h;
        final int[] x = new int[MOST_STATIONS];
        final int[] y = new int[MOST_STATIONS];
        final boolean[] held = new boolean[MOST_STATIONS];

        Plan() {
            begin(5, 5);
        }

        void begin(int width, int height) {
            w = width;
            h = height;
            for (int s = 0; s < MOST_STATIONS; s++) {
                x[s] = NONE;
                y[s] = NONE;
                held[s] = false;
            }
        }

        int points() {
            return w * h;
        }

        boolean isPlaced(int s) {
            return x[s] != NONE;
        }

        int where(int s) {
            return isPlaced(s) ? y[s] * w + x[s] : NONE;
        }

        /** Moves a station to a point; NONE takes its point away. */
        void move(int s, int p) {
            if (p < 0 || w < 1) {
                x[s] = NONE;
                y[s] = NONE;
                return;
            }
            x[s] = p % w;
            y[s] = p / w;
        }

        void copy(Plan other) {
            w = other.w;
            h = other.h;
            for (int s = 0; s < MOST_STATIONS; s++) {
                x[s] = other.x[s];
                y[s] = other.y[s];
                held[s] = other.held[s];
            }
        }

        int countPlaced() {
            int n = 0;
            for (int s = 0; s < MOST_STATIONS; s++) {
                n += isPlaced(s) ? 1 : 0;
            }
            return n;
        }

        int countHeld() {
            int n = 0;
            for (int s = 0; s < MOST_STATIONS; s++) {
                n += held[s] ? 1 : 0;
            }
            return n;
        }

        /** The direction from a to b; NONE where it is none of the eight. */
        int directionTo(int a, int b) {
            int stepX = x[b] - x[a];
            int stepY = y[b] - y[a];
            if (stepX == 0) {
                return stepY == 0 ? NONE : stepY > 0 ? 2 : 6;
            }
            if (stepY == 0) {
                return stepX > 0 ? 0 : 4;
            }
            if (stepX == stepY) {
                return stepX > 0 ? 1 : 5;
            }
            if (stepX == -stepY) {
                return stepX > 0 ? 7 : 3;
            }
            return NONE;
        }

        int distance(int a, int b) {
            return Math.max(Math.abs(x[b] - x[a]), Math.abs(y[b] - y[a]));
        }

        boolean isSamePoint(int a, int b) {
            return x[a] == x[b] && y[a] == y[b];
        }

        /** Above 0 where s lies on the one side of a, b, below 0 on the other, 0 in line with them. */
        private int side(int a, int b, int s) {
            return (x[b] - x[a]) * (y[s] - y[a]) - (y[b] - y[a]) * (x[s] - x[a]);
        }

        boolean liesBetween(int s, int a, int b) {
            if (side(a, b, s) != 0) {
                return false;
            }
            return isInSpan(x[s], x[a], x[b]) && isInSpan(y[s], y[a], y[b]);
        }

        private static boolean isInSpan(int n, int a, int b) {
            return n >= Math.min(a, b) && n <= Math.max(a, b);
        }

        /** Whether a, b and c, d cross inside both: ends that touch are found as stations on edges. */
        boolean isCrossing(int a, int b, int c, int d) {
            return side(a, b, c) * side(a, b, d) < 0 && side(c, d, a) * side(c, d, b) < 0;
        }
    }

    /** The weights of the cost, and the span. */
    private static final class Terms {
        int perBend = 10;
        int perLength = 1;
        int perTurn = 3;
        int least = 1;
    }

    /** Whether a plan is allowed, and why not. */
    private static final class Law {
        private final Net net;
        private final Plan plan;
        private final Terms terms;
        int fault;
        int first;
        int second;

        Law(Net net, Plan plan, Terms terms) {
            this.net = net;
            this.plan = plan;
            this.terms = terms;
        }

        boolean isAllowed() {
            examine();
            return fault == 0;
        }

        void examine() {
            boolean isFaulty = findUnplaced() || findShared() || findCrooked() || findShort()
                || findCovered() || findCrossing() || findTwisted();
            if (!isFaulty) {
                blame(0, NONE, NONE);
            }
        }

        private boolean blame(int sort, int one, int other) {
            fault = sort;
            first = one;
            second = other;
            return true;
        }

        private boolean findUnplaced() {
            for (int s = 0; s < net.stations; s++) {
                if (!plan.isPlaced(s)) {
                    return blame(1, s, NONE);
                }
            }
            return false;
        }

        private boolean findShared() {
            for (int a = 0; a < net.stations; a++) {
                for (int b = a + 1; b < net.stations; b++) {
                    if (plan.isSamePoint(a, b)) {
                        return blame(2, a, b);
                    }
                }
            }
            return false;
        }

        private boolean findCrooked() {
            for (int e = 0; e < net.edges; e++) {
                if (plan.directionTo(net.low[e], net.high[e]) == NONE) {
                    return blame(3, e, NONE);
                }
            }
            return false;
        }

        private boolean findShort() {
            for (int e = 0; e < net.edges; e++) {
                if (plan.distance(net.low[e], net.high[e]) < terms.least) {
                    return blame(4, e, NONE);
                }
            }
            return false;
        }

        private boolean findCovered() {
            for (int e = 0; e < net.edges; e++) {
                for (int s = 0; s < net.stations; s++) {
                    if (isOnEdge(s, e)) {
                        return blame(5, e, s);
                    }
                }
            }
            return false;
        }

        private boolean isOnEdge(int s, int e) {
            int a = net.low[e];
            int b = net.high[e];
            return s != a && s != b && plan.liesBetween(s, a, b);
        }

        private boolean findCrossing() {
            for (int e = 0; e < net.edges; e++) {
                for (int f = e + 1; f < net.edges; f++) {
                    if (plan.isCrossing(net.low[e], net.high[e], net.low[f], net.high[f])) {
                        return blame(6, e, f);
                    }
                }
            }
            return false;
        }

        private boolean findTwisted() {
            for (int s = 0; s < net.stations; s++) {
                if (!isRingTrue(s)) {
                    return blame(7, s, NONE);
                }
            }
            return false;
        }

        /** Whether the placed neighbours of s, which lie in different directions, are in true order. */
        private boolean isRingTrue(int s) {
            int seen = 0;
            int start = 0;
            int last = 0;
            int eighths = 0;
            for (int i = 0; i < net.degree[s]; i++) {
                int n = net.ring[s][i];
                if (plan.isPlaced(n)) {
                    int direction = plan.directionTo(s, n);
                    if (seen == 0) {
                        start = direction;
                    } else {
                        eighths += (direction - last) & 7;
                    }
                    last = direction;
                    seen++;
                }
            }
            eighths += (start - last) & 7;
            // in true order the way from neighbour to neighbour goes round just once
            return seen < 3 || eighths == 8;
        }

        /** Whether the edges from s to placed neighbours have a direction and are long enough. */
        boolean areEdgesGood(int s) {
            for (int i = 0; i < net.degree[s]; i++) {
                int n = net.ring[s][i];
                if (plan.isPlaced(n)
                    && (plan.distance(s, n) < terms.least || plan.directionTo(s, n) == NONE)) {
                    return false;
                }
            }
            return true;
        }

        /** Whether s, whose edges are good, goes with the other placed ones, which go together. */
        boolean fits(int s) {
            return isAlone(s) && isOffEdges(s) && areEdgesClear(s) && areRingsTrue(s);
        }

        private boolean isAlone(int s) {
            for (int t = 0; t < net.stations; t++) {
                if (t != s && plan.isSamePoint(t, s)) {
                    return false;
                }
            }
            return true;
        }

        private boolean isOffEdges(int s) {
            for (int e = 0; e < net.edges; e++) {
                if (isDrawn(e) && isOnEdge(s, e)) {
                    return false;
                }
            }
            return true;
        }

        private boolean isDrawn(int e) {
            return plan.isPlaced(net.low[e]) && plan.isPlaced(net.high[e]);
        }

        private boolean areEdgesClear(int s) {
            for (int i = 0; i < net.degree[s]; i++) {
                int n = net.ring[s][i];
                if (plan.isPlaced(n) && !isEdgeClear(s, n)) {
                    return false;
                }
            }
            return true;
        }

        private boolean isEdgeClear(int a, int b) {
            for (int s = 0; s < net.stations; s++) {
                if (s != a && s != b && plan.isPlaced(s) && plan.liesBetween(s, a, b)) {
                    return false;
                }
            }
            return !isCrossed(a, b);
        }

        boolean isCrossed(int a, int b) {
            for (int e = 0; e < net.edges; e++) {
                if (isDrawn(e) && plan.isCrossing(a, b, net.low[e], net.high[e])) {
                    return true;
                }
            }
            return false;
        }

        boolean areRingsTrue(int s) {
            for (int i = 0; i < net.degree[s]; i++) {
                int n = net.ring[s][i];
                if (plan.isPlaced(n) && !isRingTrue(n)) {
                    return false;
                }
            }
            return isRingTrue(s);
        }
    }

    /** What a plan costs. */
    private static final class Price {
        private final Net net;
        private final Plan plan;
        private final Terms terms;

        Price(Net net, Plan plan, Terms terms) {
            this.net = net;
            this.plan = plan;
            this.terms = terms;
        }

        int total() {
            return bends() * terms.perBend + lengths() * terms.perLength + turns() * terms.perTurn;
        }

        int bends() {
            int sum = 0;
            for (int l = 0; l < net.lines; l++) {
                for (int i = 1; i < net.size[l] - 1; i++) {
                    sum += bendAt(l, i);
                }
            }
            return sum;
        }

        int lengths() {
            int sum = 0;
            for (int e = 0; e < net.edges; e++) {
                sum += plan.distance(net.low[e], net.high[e]);
            }
            return sum;
        }

        int turns() {
            int sum = 0;
            for (int e = 0; e < net.edges; e++) {
                sum += turnOf(e);
            }
            return sum;
        }

        private static int eighthsBetween(int a, int b) {
            int eighths = (a - b) & 7;
            return eighths > 4 ? 8 - eighths : eighths;
        }

        private int turnOf(int e) {
            return eighthsBetween(plan.directionTo(net.low[e], net.high[e]), net.heading[e]);
        }

        private int bendAt(int l, int i) {
            int[] row = net.row[l];
            return eighthsBetween(plan.directionTo(row[i - 1], row[i]), plan.directionTo(row[i], row[i + 1]));
        }

        /** The part of the cost in which s has a share, as far as the stations of it are placed. */
        int around(int s) {
            int sum = 0;
            for (int i = 0; i < net.degree[s]; i++) {
                int n = net.ring[s][i];
                if (plan.isPlaced(n)) {
                    sum += plan.distance(s, n) * terms.perLength + turnOf(net.edgeOf[s][n]) * terms.perTurn;
                }
            }
            return sum + bendsAround(s) * terms.perBend;
        }

        private int bendsAround(int s) {
            int sum = 0;
            for (int l = 0; l < net.lines; l++) {
                int rank = net.rank[l][s];
                if (rank == NONE) {
                    continue;
                }
                int end = Math.min(rank + 1, net.size[l] - 2);
                for (int i = Math.max(rank - 1, 1); i <= end; i++) {
                    if (isBendPlaced(net.row[l], i)) {
                        sum += bendAt(l, i);
                    }
                }
            }
            return sum;
        }

        private boolean isBendPlaced(int[] row, int i) {
            return plan.isPlaced(row[i - 1]) && plan.isPlaced(row[i]) && plan.isPlaced(row[i + 1]);
        }
    }

    /**
     * The search for the best plan. It first finds the least cost, going from neighbour to neighbour
     * so that most points fall out at once, and then, station by station, the lowest point with which
     * that cost can still be had. Sets of points are held as bits, of which an int has enough.
     */
    private static final class Search {
        private static final int ANYWHERE = -1;

        private final Net net;
        private final Terms terms;
        private final Plan trial = new Plan();
        private final Law law;
        private final Price price;
        private final int[] reach = new int[BEST_POINTS];
        private final int[][] inside = new int[BEST_POINTS][BEST_POINTS];
        private final int[] fixed = new int[MOST_STATIONS];
        private final int[] found = new int[MOST_STATIONS];
        private final int[] order = new int[MOST_STATIONS];
        private final boolean[] isOrdered = new boolean[MOST_STATIONS];
        private final int[] rest = new int[MOST_STATIONS + 1];
        private boolean isAnyHeld;
        private int limit;
        private int enough;

        Search(Net net, Terms terms) {
            this.net = net;
            this.terms = terms;
            law = new Law(net, trial, terms);
            price = new Price(net, trial, terms);
        }

        /** The least cost, to which plan then comes; NONE, and plan stays, where there is none. */
        int findLeast(Plan plan) {
            trial.begin(plan.w, plan.h);
            for (int y = 0; y < trial.h; y++) {
                for (int x = 0; x < trial.w; x++) {
                    lookRound(x, y);
                }
            }
            isAnyHeld = plan.countHeld() > 0;
            for (int s = 0; s < net.stations; s++) {
                fixed[s] = plan.held[s] ? plan.where(s) : NONE;
            }
            arrange();
            limit = Integer.MAX_VALUE;
            enough = rest[0];
            descend(0, 0, 0);
            if (limit == Integer.MAX_VALUE) {
                return NONE;
            }
            int least = limit;
            for (int s = 0; s < net.stations; s++) {
                settle(s, least);
            }
            for (int s = 0; s < net.stations; s++) {
                plan.move(s, found[s]);
            }
            return least;
        }

        /** Notes which points an edge from x, y can lead to, and the points inside each such edge. */
        private void lookRound(int x, int y) {
            int p = y * trial.w + x;
            reach[p] = 0;
            for (int direction = 0; direction < 8; direction++) {
                int passed = 0;
                for (int n = 1; n < 8; n++) {
                    int toX = x + n * STEP_X[direction];
                    int toY = y + n * STEP_Y[direction];
                    if (!isWithin(toX, 0, trial.w - 1) || !isWithin(toY, 0, trial.h - 1)) {
                        break;
                    }
                    int q = toY * trial.w + toX;
                    inside[p][q] = passed;
                    passed |= 1 << q;
                    reach[p] |= n < terms.least ? 0 : 1 << q;
                }
            }
        }

        private void settle(int s, int least) {
            if (fixed[s] != NONE) {
                return;
            }
            // a mark, so that arrange() takes s for a fixed one
            fixed[s] = 0;
            arrange();
            enough = least;
            for (int p = 0; p < found[s]; p++) {
                fixed[s] = p;
                limit = least + 1;
                if (descend(0, 0, 0)) {
                    return;
                }
            }
            fixed[s] = found[s];
        }

        /** Fixed stations come first, then always the one with most edges to those before it. */
        private void arrange() {
            for (int s = 0; s < net.stations; s++) {
                isOrdered[s] = false;
            }
            for (int depth = 0; depth < net.stations; depth++) {
                int next = 0;
                int most = NONE;
                for (int s = 0; s < net.stations; s++) {
                    int urgency = isOrdered[s] ? NONE : urgencyOf(s);
                    if (urgency > most) {
                        most = urgency;
                        next = s;
                    }
                }
                order[depth] = next;
                isOrdered[next] = true;
            }
            countRest();
        }

        private int urgencyOf(int s) {
            return (fixed[s] == NONE ? 0 : 10000) + 100 * edgesToOrdered(s) + net.degree[s];
        }

        private int edgesToOrdered(int s) {
            int n = 0;
            for (int i = 0; i < net.degree[s]; i++) {
                n += isOrdered[net.ring[s][i]] ? 1 : 0;
            }
            return n;
        }

        /** At each depth the least that the edges still to come can cost. */
        private void countRest() {
            for (int s = 0; s < net.stations; s++) {
                isOrdered[s] = false;
            }
            rest[0] = net.edges * terms.least * terms.perLength;
            for (int depth = 0; depth < net.stations; depth++) {
                int s = order[depth];
                rest[depth + 1] = rest[depth] - edgesToOrdered(s) * terms.least * terms.perLength;
                isOrdered[s] = true;
            }
        }

        /**
         * Places the stations from depth on, off the taken points, which are those with a station or
         * an edge on them; true when no better end need be looked for.
         */
        private boolean descend(int depth, int spent, int taken) {
            if (depth >= net.stations) {
                return keep(spent);
            }
            int s = order[depth];
            int open = openPoints(depth) & ~taken;
            boolean isDone = false;
            for (int p = 0; p < trial.points() && !isDone; p++) {
                if ((open >> p & 1) == 0) {
                    continue;
                }
                trial.move(s, p);
                int cost = spent + price.around(s);
                if (cost + rest[depth + 1] < limit) {
                    int passed = passedPoints(s, p, taken);
                    isDone = passed != NONE && law.areRingsTrue(s)
                        && descend(depth + 1, cost, taken | passed | 1 << p);
                }
            }
            trial.move(s, NONE);
            return isDone;
        }

        private boolean keep(int spent) {
            limit = spent;
            for (int s = 0; s < net.stations; s++) {
                found[s] = trial.where(s);
            }
            return limit <= enough;
        }

        /** Where the station of this depth can stand as far as its own edges tell. */
        private int openPoints(int depth) {
            int s = order[depth];
            int open = fixed[s] == NONE ? ANYWHERE : 1 << fixed[s];
            for (int i = 0; i < net.degree[s]; i++) {
                int n = net.ring[s][i];
                if (trial.isPlaced(n)) {
                    open &= reach[trial.where(n)];
                }
            }
            return depth == net.stations - 1 && !isAnyHeld ? open & flushPoints() : open;
        }

        /**
         * Where the last station must stand for the drawing to touch both x 0 and y 0: one that does
         * not can be shifted there at the same cost, and has lower points then.
         */
        private int flushPoints() {
            boolean isLeft = false;
            boolean isTop = false;
            for (int s = 0; s < net.stations; s++) {
                isLeft |= trial.x[s] == 0;
                isTop |= trial.y[s] == 0;
            }
            int left = 0;
            for (int y = 0; y < trial.h; y++) {
                left |= 1 << (y * trial.w);
            }
            int top = (1 << trial.w) - 1;
            return (isLeft ? ANYWHERE : left) & (isTop ? ANYWHERE : top);
        }

        /** The points inside the edges from s at p to placed ones; NONE where one is in the way. */
        private int passedPoints(int s, int p, int taken) {
            int passed = 0;
            for (int i = 0; i < net.degree[s]; i++) {
                int n = net.ring[s][i];
                if (!trial.isPlaced(n)) {
                    continue;
                }
                passed |= inside[p][trial.where(n)];
                // between the points of the grid only edges aslant can cross
                boolean isAslant = (trial.directionTo(s, n) & 1) == 1;
                if ((passed & taken) != 0 || isAslant && law.isCrossed(s, n)) {
                    return NONE;
                }
            }
            return passed;
        }
    }

    /** Names of stations and where the latest put() laid them. */
    private static final class Names {
        private final Net net;
        private final Plan plan;
        final int[] signs = new int[MOST_STATIONS];
        final int[] side = new int[MOST_STATIONS];
        final int[] hindrance = new int[MOST_STATIONS];
        private final int[] begin = new int[MOST_STATIONS];
        private final int[] end = new int[MOST_STATIONS];
        private final int[] level = new int[MOST_STATIONS];

        Names(Net net, Plan plan) {
            this.net = net;
            this.plan = plan;
            forget();
        }

        private void forget() {
            Arrays.fill(side, NONE);
            Arrays.fill(hindrance, NONE);
        }

        int putAll() {
            forget();
            int n = 0;
            for (int s = 0; s < net.stations; s++) {
                if (signs[s] > 0 && layFreely(s)) {
                    n++;
                }
            }
            return n;
        }

        private boolean layFreely(int s) {
            for (int k = 0; k < 8; k++) {
                lay(s, k);
                if (obstacle(s) == NONE) {
                    side[s] = k;
                    return true;
                }
            }
            lay(s, 0);
            hindrance[s] = obstacle(s);
            return false;
        }

        private void lay(int s, int k) {
            int x = 4 * plan.x[s];
            if (k == 2 || k == 6) {
                begin[s] = x - signs[s] / 2;
            } else {
                begin[s] = k > 2 && k < 6 ? x - signs[s] : x + 1;
            }
            end[s] = begin[s] + signs[s] - 1;
            int rise = k == 0 || k == 4 ? 0 : k < 4 ? 1 : -1;
            level[s] = 4 * plan.y[s] + rise;
        }

        /** What lies where the name of s is laid, stations ahead of edges ahead of names. */
        private int obstacle(int s) {
            for (int t = 0; t < net.stations; t++) {
                if (level[s] == 4 * plan.y[t] && isUnder(s, 4 * plan.x[t], 4 * plan.x[t])) {
                    return t;
                }
            }
            for (int e = 0; e < net.edges; e++) {
                if (isOnEdge(s, net.low[e], net.high[e])) {
                    return 100 + e;
                }
            }
            for (int t = 0; t < s; t++) {
                if (side[t] != NONE && level[t] == level[s] && isUnder(s, begin[t], end[t])) {
                    return 200 + t;
                }
            }
            return NONE;
        }

        private boolean isUnder(int s, int from, int to) {
            return begin[s] <= to && from <= end[s];
        }

        private boolean isOnEdge(int s, int a, int b) {
            int ax = 4 * plan.x[a];
            int ay = 4 * plan.y[a];
            int bx = 4 * plan.x[b];
            int by = 4 * plan.y[b];
            if (level[s] < Math.min(ay, by) || level[s] > Math.max(ay, by)) {
                return false;
            }
            if (ay == by) {
                return isUnder(s, Math.min(ax, bx), Math.max(ax, bx));
            }
            // upright and aslant edges have one cell on each level between their ends
            int away = Math.abs(level[s] - ay);
            int x = bx == ax ? ax : bx > ax ? ax + away : ax - away;
            return isUnder(s, x, x);
        }
    }
}

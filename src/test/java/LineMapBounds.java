/**
 * The sentences of the document that name a bound: too small, too large, empty, full, a wrap-around.
 * Each has a test of its own; says(..) tells by which sentence the answers that follow are due. What
 * a refused call leaves as it was is looked at by LineMapRefusals.
 */
public final class LineMapBounds {
  private static final int LEAST = Integer.MIN_VALUE;
  private static final int MOST = Integer.MAX_VALUE;
  private static final int NONE = -1;
  private static final int[] DX = {1, 1, 0, -1, -1, -1, 0, 1};
  private static final int[] DY = {0, 1, 1, 1, 0, -1, -1, -1};

  private static int wrong = 0;
  private static int looked = 0;
  private static String sentence = "";

  private static void says(String text) {
    sentence = text;
  }

  private static void due(String call, long got, long want) {
    looked++;
    if (got != want) {
      wrong++;
      System.out.println("'" + sentence + "': " + call + " answered " + got + ", due is " + want);
    }
  }

  /** Several answers in one row. */
  private static void dueAll(String call, int[] got, int... want) {
    due(call + ": how many", got.length, want.length);
    for (int i = 0; i < Math.min(got.length, want.length); i++) due(call + " [" + i + "]", got[i], want[i]);
  }

  public static void main(String[] args) {
    calls512();
    stationsAndLines();
    edges();
    directions();
    rings();
    theGrid();
    whyBounds();
    whyRing();
    whyFirst();
    costBounds();
    bestBounds();
    betterBounds();
    fullMap();
    nameBounds();
    putBounds();
    imageBounds();
    answersOfNone();
    System.out.println(wrong == 0 ? looked + " answers are as due" : wrong + " answers are not as due");
    if (wrong != 0) System.exit(1);
  }

  /** Numbers that lie outside: next to the bounds, as far as can be, and alike but for higher bits. */
  private static int[] outside(int low, int high) {
    return new int[] {LEAST, low - 65536, low - 1, high + 1, low + 65536, MOST};
  }

  /** Stations at 100 times the given places. */
  private static LineMap mapOf(int... places) {
    LineMap x = new LineMap();
    for (int i = 0; i + 1 < places.length; i += 2) {
      due("station", x.station(100 * places[i], 100 * places[i + 1]), i / 2);
    }
    return x;
  }

  private static void addLine(LineMap x, int... stations) {
    int l = x.line();
    for (int i = 0; i < stations.length; i++) due("lead", x.lead(l, stations[i]), i + 1);
  }

  private static void draw(LineMap x, int... places) {
    for (int i = 0; i + 1 < places.length; i += 2) due("place", x.place(i / 2, places[i], places[i + 1]), 0);
  }

  /** Stations with true places and points alike; they come in true order then. */
  private static LineMap drawn(int w, int h, int... places) {
    LineMap x = mapOf(places);
    x.grid(w, h);
    draw(x, places);
    return x;
  }

  private static int[] points(LineMap x) {
    int[] p = new int[x.count(0)];
    for (int s = 0; s < p.length; s++) p[s] = x.point(s);
    return p;
  }

  private static int[] whyAll(LineMap x) {
    return new int[] {x.why(0), x.why(1), x.why(2)};
  }

  private static int[] costs(LineMap x) {
    return new int[] {x.cost(0), x.cost(1), x.cost(2), x.cost(3)};
  }

  private static void calls512() {
    says("An object is used for at most 512 calls after it has been made");
    LineMap x = new LineMap();
    x.station(0, 0);
    x.station(100, 0);
    x.line();
    x.lead(0, 0);
    x.lead(0, 1);
    for (int n = 6; n <= 511; n++) due("call " + n + ", best()", x.best(), 1);
    due("call 512, point(1)", x.point(1), 1);
  }

  // Terms I

  private static void stationsAndLines() {
    says("STATIONS 0 .. 9 (10 at most)");
    LineMap x = new LineMap();
    x.line();
    for (int s = 0; s < 10; s++) {
      due("place(" + s + ", 0, 0) ahead of it", x.place(s, 0, 0), -2);
      due("name(" + s + ", 1) ahead of it", x.name(s, 1), -2);
      due("lead(0, " + s + ") ahead of it", x.lead(0, s), -2);
      due("round(" + s + ", -1) ahead of it", x.round(s, -1), NONE);
      due("station " + s, x.station(7 * s, 3), s);
      due("count(0)", x.count(0), s + 1);
      due("round(" + s + ", -1)", x.round(s, -1), 0);
      due("lead(0, " + s + ")", x.lead(0, s), s + 1);
      due("name(" + s + ", 1)", x.name(s, 1), 0);
      due("place(" + s + ", 0, 0)", x.place(s, 0, 0), 0);
      due("hold(" + s + ", true)", x.hold(s, true), 0);
    }
    for (int n = 0; n < 3; n++) due("an eleventh", x.station(900 + n, 900), -5);
    due("count(0)", x.count(0), 10);
    due("place(10, 0, 0)", x.place(10, 0, 0), -2);

    says("TRUE places x, y (0 .. 1000");
    LineMap y = new LineMap();
    for (int n : outside(0, 1000)) {
      due("station(" + n + ", 500)", y.station(n, 500), -1);
      due("station(500, " + n + ")", y.station(500, n), -1);
    }
    due("station(0, 0)", y.station(0, 0), 0);
    due("station(1000, 0)", y.station(1000, 0), 1);
    due("station(0, 1000)", y.station(0, 1000), 2);
    due("station(1000, 1000)", y.station(1000, 1000), 3);

    says("no two at one");
    LineMap z = new LineMap();
    int[][] at = {{500, 499}, {500, 500}, {499, 500}, {500, 501}, {501, 500}, {499, 499}, {0, 1}, {1, 0}, {999, 1000}, {1000, 999}};
    for (int s = 0; s < 10; s++) due("station " + s, z.station(at[s][0], at[s][1]), s);
    for (int s = 0; s < 10; s++) due("station " + s + " again", z.station(at[s][0], at[s][1]), -4);
    due("count(0)", z.count(0), 10);

    says("LINES 0 .. 5 (6 at most)");
    LineMap u = new LineMap();
    u.station(0, 0);
    for (int l = 0; l < 6; l++) {
      due("lead(" + l + ", 0) ahead of it", u.lead(l, 0), -2);
      due("of(" + l + ", -1) ahead of it", u.of(l, -1), NONE);
      due("line " + l, u.line(), l);
      due("of(" + l + ", -1)", u.of(l, -1), 0);
      due("lead(" + l + ", 0)", u.lead(l, 0), 1);
      due("count(1)", u.count(1), l + 1);
    }
    for (int n = 0; n < 3; n++) due("a seventh", u.line(), -5);
    due("count(1)", u.count(1), 6);
    due("of(6, -1)", u.of(6, -1), NONE);
    due("lead(6, 0)", u.lead(6, 0), -2);

    says("rows of STATIONS, 10 at most, none twice in one");
    LineMap v = mapOf(0, 0, 1, 0, 2, 0, 3, 0, 4, 0, 5, 0, 6, 0, 7, 0, 8, 0, 9, 0);
    v.line();
    v.line();
    for (int i = 0; i < 10; i++) {
      due("lead(0, " + (9 - i) + ")", v.lead(0, 9 - i), i + 1);
      for (int k = 0; k <= i; k++) due("lead(0, " + (9 - k) + ") again", v.lead(0, 9 - k), -4);
      due("of(0, -1)", v.of(0, -1), i + 1);
    }
    for (int i = 0; i < 10; i++) due("of(0, " + i + ")", v.of(0, i), 9 - i);
    due("of(0, 10)", v.of(0, 10), NONE);
    for (int i = 0; i < 10; i++) due("lead(1, " + i + ") of another line", v.lead(1, i), i + 1);
    due("of(1, 9)", v.of(1, 9), 9);
  }

  private static void edges() {
    says("all pairs of STATIONS that stand one behind the other in some LINE");
    LineMap x = mapOf(0, 0, 1, 0, 2, 0, 3, 0);
    due("no line", x.edge(-1, 0), 0);
    due("edge(0, 0)", x.edge(0, 0), NONE);
    addLine(x);
    due("an empty line", x.edge(-1, 0), 0);
    addLine(x, 2);
    due("a line of one", x.edge(-1, 0), 0);
    due("round(2, -1)", x.round(2, -1), 0);
    addLine(x, 0, 1, 3);
    due("a line of three, whose ends are no pair", x.edge(-1, 0), 2);
    dueAll("edge 0", new int[] {x.edge(0, 0), x.edge(0, 1)}, 0, 1);
    dueAll("edge 1", new int[] {x.edge(1, 0), x.edge(1, 1)}, 1, 3);
    due("edge(2, 0)", x.edge(2, 0), NONE);
    due("round(2, -1) of another line's", x.round(2, -1), 0);
    due("lead(2, 3) again", x.lead(2, 3), -4);
    due("a refused lead makes no pair", x.edge(-1, 0), 2);

    says("each pair once");
    addLine(x, 3, 1, 0);
    due("the other way round", x.edge(-1, 0), 2);
    addLine(x, 0, 1);
    due("once more", x.edge(-1, 0), 2);
    due("round(1, -1)", x.round(1, -1), 2);

    says("numbered by the lower STATION, then by the higher one");
    LineMap full = allJoined();
    int e = 0;
    for (int a = 0; a < 10; a++) {
      for (int b = a + 1; b < 10; b++) {
        dueAll("edge " + e, new int[] {full.edge(e, 0), full.edge(e, 1)}, a, b);
        e++;
      }
    }
    due("edge(-1, 0), all that there can be", full.edge(-1, 0), 45);
    for (int k = 0; k < 3; k++) due("edge(45, " + k + ")", full.edge(45, k), NONE);
    for (int s = 0; s < 10; s++) due("round(" + s + ", -1)", full.round(s, -1), 9);
    due("round(0, 9)", full.round(0, 9), NONE);
    addLine(full, 0, 5, 1);
    due("edge(-1, 0), no pair is left", full.edge(-1, 0), 45);
  }

  /** Ten stations, each joined with each by five lines to and fro. */
  private static LineMap allJoined() {
    LineMap x = mapOf(0, 0, 9, 1, 2, 8, 7, 7, 4, 1, 1, 4, 8, 3, 3, 9, 6, 5, 5, 6);
    for (int first = 0; first < 5; first++) {
      int[] row = new int[10];
      for (int i = 0; i < 10; i++) row[i] = Math.floorMod(first + (i % 2 == 0 ? i / 2 : -(i + 1) / 2), 10);
      addLine(x, row);
    }
    return x;
  }

  private static void directions() {
    says("by 1000 |y| below 414 |x|: along x (0, or 4 if x is below 0)");
    trueDirection(500, 0, 0);
    trueDirection(500, 206, 0);
    trueDirection(500, -206, 0);
    trueDirection(-500, 0, 4);
    trueDirection(-500, 206, 4);
    trueDirection(-500, -206, 4);
    says("by 1000 |x| below 414 |y|: along y (2, 6)");
    trueDirection(0, 500, 2);
    trueDirection(206, 500, 2);
    trueDirection(-206, 500, 2);
    trueDirection(0, -500, 6);
    trueDirection(206, -500, 6);
    trueDirection(-206, -500, 6);
    // 1000 times 207 is just 414 times 500
    says("else the one between (1: both above 0; 3: x below 0; 5: both; 7: y below 0)");
    trueDirection(500, 207, 1);
    trueDirection(207, 500, 1);
    trueDirection(-500, 207, 3);
    trueDirection(-207, 500, 3);
    trueDirection(-500, -207, 5);
    trueDirection(-207, -500, 5);
    trueDirection(500, -207, 7);
    trueDirection(207, -500, 7);
    // the least steps that there are
    for (int d = 0; d < 8; d++) trueDirection(DX[d], DY[d], d);
    // the greatest ones, from corner to corner and just at the bound
    int[][] far = {
      {1000, 0, 0}, {1000, 413, 0}, {998, 413, 0}, {997, 413, 1}, {1000, 414, 1}, {1000, 1000, 1},
      {0, 1000, 2}, {413, 1000, 2}, {413, 998, 2}, {413, 997, 1}, {414, 1000, 1},
    };
    for (int[] f : far) {
      LineMap x = new LineMap();
      x.station(0, 0);
      x.station(f[0], f[1]);
      addLine(x, 0, 1);
      due("edge(0, 2) to " + f[0] + ", " + f[1], x.edge(0, 2), f[2]);
      LineMap back = new LineMap();
      back.station(f[0], f[1]);
      back.station(0, 0);
      addLine(back, 0, 1);
      due("edge(0, 2) from " + f[0] + ", " + f[1], back.edge(0, 2), (f[2] + 4) % 8);
    }

    says("2 its TRUE DIRECTION from the lower one");
    LineMap y = mapOf(1, 0, 0, 0);
    addLine(y, 1, 0);
    due("edge(0, 2) of a line that comes from the higher one", y.edge(0, 2), 4);
  }

  private static void trueDirection(int x, int y, int want) {
    LineMap map = new LineMap();
    map.station(500, 500);
    map.station(500 + x, 500 + y);
    addLine(map, 0, 1);
    due("edge(0, 2) of " + x + ", " + y, map.edge(0, 2), want);
  }

  private static void rings() {
    says("by true angles from that along x on");
    LineMap x = new LineMap();
    x.station(500, 500);
    // numbers go down round the station, from just under the x axis
    int[][] steps = {{500, -1}, {1, -500}, {-1, -500}, {-500, -1}, {-500, 0}, {-500, 1}, {0, 500}, {500, 1}, {500, 0}};
    for (int[] s : steps) x.station(500 + s[0], 500 + s[1]);
    addLine(x, 1, 0, 2);
    addLine(x, 3, 0, 4);
    addLine(x, 5, 0, 6);
    addLine(x, 7, 0, 8);
    addLine(x, 9, 0);
    due("round(0, -1)", x.round(0, -1), 9);
    for (int i = 0; i < 9; i++) due("round(0, " + i + ")", x.round(0, i), 9 - i);
    due("round(0, 9)", x.round(0, 9), NONE);

    LineMap near = new LineMap();
    near.station(500, 500);
    for (int d = 7; d >= 0; d--) near.station(500 + DX[d], 500 + DY[d]);
    for (int s = 1; s < 9; s += 2) addLine(near, s, 0, s + 1);
    for (int i = 0; i < 8; i++) due("round(0, " + i + ") of the least steps", near.round(0, i), 8 - i);
    // the angles that differ least of all
    LineMap fine = new LineMap();
    fine.station(0, 0);
    fine.station(998, 999);
    fine.station(999, 1000);
    fine.station(997, 998);
    addLine(fine, 1, 0, 2);
    addLine(fine, 3, 0);
    for (int i = 0; i < 3; i++) due("round(0, " + i + ") of angles just not alike", fine.round(0, i), new int[] {2, 1, 3}[i]);

    says("alike ones by their numbers");
    LineMap y = mapOf(5, 5, 9, 9, 7, 7, 6, 6, 8, 8, 1, 1, 2, 2, 0, 0, 3, 3, 4, 4);
    addLine(y, 9, 0, 4);
    addLine(y, 3, 0, 8);
    addLine(y, 7, 0, 2);
    addLine(y, 1, 0, 6);
    addLine(y, 5, 0);
    for (int i = 0; i < 9; i++) due("round(0, " + i + ")", y.round(0, i), i + 1);
  }

  // Terms II

  private static void theGrid() {
    says("THE GRID has W times H POINTS (2 .. 8 each; 5, 5 at first)");
    LineMap x = new LineMap();
    dueAll("a new one", new int[] {x.count(4), x.count(5)}, 5, 5);
    for (int w = 0; w <= 10; w++) {
      for (int h = 0; h <= 10; h++) {
        boolean can = w >= 2 && w <= 8 && h >= 2 && h <= 8;
        due("grid(" + w + ", " + h + ")", new LineMap().grid(w, h), can ? 0 : -1);
      }
    }
    for (int n : outside(2, 8)) {
      due("grid(" + n + ", 5)", x.grid(n, 5), -1);
      due("grid(5, " + n + ")", x.grid(5, n), -1);
    }
    dueAll("it stays", new int[] {x.count(4), x.count(5)}, 5, 5);

    says("x 0 .. W - 1, y 0 .. H - 1, numbered y W + x");
    for (int w = 2; w <= 8; w++) {
      for (int h = 2; h <= 8; h++) pointsOf(w, h);
    }

    says("A DRAWING gives STATIONS POINTS (none at first), some of them HELD");
    LineMap y = mapOf(0, 0, 1, 0);
    dueAll("points at first", points(y), NONE, NONE);
    dueAll("how many have them, are held", new int[] {y.count(2), y.count(3)}, 0, 0);

    says("no STATION has a POINT then, none is HELD");
    draw(y, 0, 0, 1, 0);
    y.hold(0, true);
    due("grid(5, 5), as it was", y.grid(5, 5), 0);
    dueAll("points", points(y), NONE, NONE);
    dueAll("how many have them, are held", new int[] {y.count(2), y.count(3)}, 0, 0);
    due("place(0, 1, 1) of one that was held", y.place(0, 1, 1), 0);

    says("SPAN 1 .. 4 (1 at first)");
    LineMap z = new LineMap();
    due("count(6)", z.count(6), 1);
    int was = 1;
    for (int n : new int[] {4, 1, 3, 2}) {
      for (int bad : outside(1, 4)) due("span(" + bad + ")", z.span(bad), -1);
      due("span(" + n + ")", z.span(n), was);
      was = n;
      due("count(6)", z.count(6), n);
    }
  }

  private static void pointsOf(int w, int h) {
    LineMap x = mapOf(0, 0);
    x.grid(w, h);
    for (int y = 0; y < h; y++) {
      for (int c = 0; c < w; c++) {
        due("place(0, " + c + ", " + y + ") of " + w + ", " + h, x.place(0, c, y), 0);
        due("point(0)", x.point(0), y * w + c);
      }
    }
    for (int n : outside(0, w - 1)) due("place(0, " + n + ", 0) of " + w + ", " + h, x.place(0, n, 0), -1);
    for (int n : outside(0, h - 1)) due("place(0, 0, " + n + ") of " + w + ", " + h, x.place(0, 0, n), -1);
    due("point(0)", x.point(0), w * h - 1);
  }

  private static void whyBounds() {
    says("WHY a DRAWING isn't ALLOWED");
    dueAll("without stations it is", whyAll(new LineMap()), 0, NONE, NONE);
    dueAll("with one that has a point it is", whyAll(drawn(2, 2, 1, 1)), 0, NONE, NONE);

    says("1 a STATION has no POINT");
    LineMap x = mapOf(0, 0, 1, 0, 2, 0, 3, 0, 4, 0, 5, 0, 6, 0, 7, 0, 8, 0, 9, 0);
    for (int s = 0; s < 10; s++) {
      dueAll("of 10 the first " + s + " have one", whyAll(x), 1, s, NONE);
      x.place(s, s % 5, s / 5);
    }
    dueAll("all 10 have one", whyAll(x), 0, NONE, NONE);

    says("2 two have one");
    for (int s = 0; s < 9; s++) {
      x.place(9, s % 5, s / 5);
      dueAll("9 where " + s + " is", whyAll(x), 2, s, 9);
    }
    x.place(9, 4, 4);
    dueAll("9 alone again", whyAll(x), 0, NONE, NONE);

    says("5 a STATION lies on an EDGE whose end it is not");
    LineMap first = drawn(5, 5, 1, 0, 0, 0, 2, 0);
    addLine(first, 2, 1);
    dueAll("0 on 1 2", whyAll(first), 5, 0, 0);

    pairOnGrid();
    thirdOnGrid();
    twoEdgesOnGrid();
  }

  /** One edge, each step that a grid of 8 by 8 has, each span. */
  private static void pairOnGrid() {
    for (int p = 0; p < 64; p++) {
      for (int q = 0; q < 64; q++) {
        LineMap x = mapOf(0, 0, 1, 0);
        addLine(x, 1, 0);
        x.grid(8, 8);
        draw(x, p % 8, p / 8, q % 8, q / 8);
        int far = Math.abs(p % 8 - q % 8);
        int tall = Math.abs(p / 8 - q / 8);
        boolean straight = far == 0 || tall == 0 || far == tall;
        if (p == q) says("2 two have one");
        else says(straight ? "4 an EDGE's LENGTH (the greater of both ways) is below SPAN" : "3 an EDGE's step is not in a DIRECTION (x 0, y 0, or both alike far)");
        for (int span = 1; span <= 4; span++) {
          x.span(span);
          int sort = p == q ? 2 : !straight ? 3 : Math.max(far, tall) < span ? 4 : 0;
          due("why(0) of " + p + ", " + q + " with span " + span, x.why(0), sort);
          due("why(1)", x.why(1), sort == 0 ? NONE : 0);
          due("why(2)", x.why(2), sort == 2 ? 1 : NONE);
        }
      }
    }
  }

  /** One edge and one station on a grid of 4 by 4: behind the edge, at its end, on it, beside it. */
  private static void thirdOnGrid() {
    says("5 a STATION lies on an EDGE whose end it is not");
    for (int p = 0; p < 16; p++) {
      for (int d = 0; d < 8; d++) {
        for (int n = 1; n < 4; n++) {
          int toX = p % 4 + n * DX[d];
          int toY = p / 4 + n * DY[d];
          if (toX < 0 || toX > 3 || toY < 0 || toY > 3) continue;
          for (int q = 0; q < 16; q++) {
            LineMap x = mapOf(0, 0, 1, 0, 2, 0);
            addLine(x, 0, 2);
            x.grid(4, 4);
            draw(x, p % 4, p / 4, q % 4, q / 4, toX, toY);
            boolean on = false;
            for (int i = 1; i < n; i++) on |= q % 4 == p % 4 + i * DX[d] && q / 4 == p / 4 + i * DY[d];
            boolean shared = q == p || q == 4 * toY + toX;
            String call = "why of 1 at " + q + " and an edge from " + p + " in direction " + d + ", " + n + " far";
            if (on) dueAll(call, whyAll(x), 5, 0, 1);
            else due(call, x.why(0), shared ? 2 : 0);
          }
        }
      }
    }
  }

  private static void twoEdgesOnGrid() {
    says("6 two EDGES have a point (of the plane) in common that is no STATION of both");
    // on a grid of 2 by 2 the two diagonals cross between the points, sides do not
    dueAll("diagonals", whyAll(twoEdges(2, 0, 0, 1, 1, 0, 1, 1, 0)), 6, 0, 1);
    dueAll("sides along x", whyAll(twoEdges(2, 0, 0, 1, 0, 0, 1, 1, 1)), 0, NONE, NONE);
    dueAll("sides along y", whyAll(twoEdges(2, 0, 0, 0, 1, 1, 0, 1, 1)), 0, NONE, NONE);
    // a cross on a point of the grid
    dueAll("upright and along", whyAll(twoEdges(3, 0, 1, 2, 1, 1, 0, 1, 2)), 6, 0, 1);
    dueAll("aslant and aslant", whyAll(twoEdges(3, 0, 0, 2, 2, 2, 0, 0, 2)), 6, 0, 1);
    dueAll("upright and aslant", whyAll(twoEdges(3, 1, 0, 1, 2, 0, 0, 2, 2)), 6, 0, 1);
    dueAll("along and aslant", whyAll(twoEdges(3, 0, 1, 2, 1, 2, 0, 0, 2)), 6, 0, 1);
    // one that ends on the other is a station on an edge, one that ends ahead of it does nothing
    dueAll("up to it", whyAll(twoEdges(4, 0, 2, 3, 2, 1, 0, 1, 2)), 5, 0, 3);
    dueAll("one step short of it", whyAll(twoEdges(4, 0, 2, 3, 2, 1, 0, 1, 1)), 0, NONE, NONE);
    dueAll("one step through it", whyAll(twoEdges(4, 0, 2, 3, 2, 1, 0, 1, 3)), 6, 0, 1);
    dueAll("aslant, half a step through it", whyAll(twoEdges(4, 0, 0, 3, 3, 2, 1, 1, 2)), 6, 0, 1);
    dueAll("aslant, half a step short of it", whyAll(twoEdges(4, 0, 0, 3, 3, 3, 0, 2, 1)), 0, NONE, NONE);
    dueAll("past its end", whyAll(twoEdges(4, 0, 2, 2, 2, 3, 0, 3, 3)), 0, NONE, NONE);
    // in one row, one behind the other, one over the other
    dueAll("behind one another", whyAll(twoEdges(4, 0, 0, 1, 0, 2, 0, 3, 0)), 0, NONE, NONE);
    dueAll("over one another", whyAll(twoEdges(4, 0, 0, 2, 0, 1, 0, 3, 0)), 5, 0, 2);
    // a point that is a station of both is none of these
    LineMap x = drawn(3, 3, 0, 0, 1, 1, 2, 2, 2, 0, 0, 2);
    addLine(x, 0, 1, 2);
    addLine(x, 3, 1, 4);
    dueAll("four edges at one station", whyAll(x), 0, NONE, NONE);
  }

  private static LineMap twoEdges(int size, int... places) {
    LineMap x = mapOf(0, 0, 1, 0, 2, 0, 3, 0);
    addLine(x, 0, 1);
    addLine(x, 2, 3);
    x.grid(size, size);
    draw(x, places);
    return x;
  }

  /** Station 0 amid neighbours 1 .. n, whose true directions are 0 .. n - 1, as yet without points. */
  private static LineMap hub(int n) {
    LineMap x = new LineMap();
    x.station(500, 500);
    for (int d = 0; d < n; d++) x.station(500 + 100 * DX[d], 500 + 100 * DY[d]);
    for (int s = 1; s <= n; s += 2) {
      if (s < n) addLine(x, s, 0, s + 1); else addLine(x, s, 0);
    }
    x.grid(3, 3);
    x.place(0, 1, 1);
    return x;
  }

  private static void drawRound(LineMap x, int... directions) {
    for (int i = 0; i < directions.length; i++) {
      due("place", x.place(i + 1, 1 + DX[directions[i] & 7], 1 + DY[directions[i] & 7]), 0);
    }
  }

  private static int[] inTurn(int n, int from) {
    int[] row = new int[n];
    for (int i = 0; i < n; i++) row[i] = i + from;
    return row;
  }

  private static void whyRing() {
    says("its neighbours (3 or more)");
    for (int a = 0; a < 8; a++) {
      for (int b = 0; b < 8; b++) {
        if (a == b) continue;
        LineMap x = hub(2);
        drawRound(x, a, b);
        due("why(0) of two neighbours in " + a + ", " + b, x.why(0), 0);
      }
    }
    LineMap three = hub(3);
    drawRound(three, 0, 1, 2);
    dueAll("three in true order", whyAll(three), 0, NONE, NONE);
    drawRound(three, 0, 2, 1);
    dueAll("three in another order", whyAll(three), 7, 0, NONE);
    drawRound(three, 4, 2, 0);
    dueAll("three the other way round", whyAll(three), 7, 0, NONE);

    says("where a ring begins is no matter");
    for (int n = 3; n <= 8; n++) {
      for (int from = 0; from < 8; from++) {
        LineMap x = hub(n);
        drawRound(x, inTurn(n, from));
        due("why(0) of " + n + " neighbours from direction " + from + " on", x.why(0), 0);
      }
    }

    says("come in another ring than by true places");
    for (int n = 3; n <= 8; n++) {
      for (int i = 0; i < n; i++) {
        for (int k = i + 1; k < n; k++) {
          LineMap x = hub(n);
          int[] row = inTurn(n, 6);
          row[i] = k + 6;
          row[k] = i + 6;
          drawRound(x, row);
          dueAll("of " + n + " neighbours " + (i + 1) + " and " + (k + 1) + " changed", whyAll(x), 7, 0, NONE);
        }
      }
    }

    says("by their true angles, upwards; alike ones by their numbers");
    LineMap y = mapOf(0, 0, 3, 0, 2, 0, 1, 0);
    addLine(y, 1, 0, 2);
    addLine(y, 3, 0);
    y.grid(3, 3);
    y.place(0, 1, 1);
    drawRound(y, 7, 0, 1);
    due("three of one true angle by numbers", y.why(0), 0);
    drawRound(y, 1, 0, 7);
    due("three of one true angle against numbers", y.why(0), 7);

    // in eight directions a ninth neighbour lies behind another one
    says("5 a STATION lies on an EDGE whose end it is not");
    LineMap z = mapOf(2, 2, 3, 2, 3, 3, 2, 3, 1, 3, 1, 2, 1, 1, 2, 1, 3, 1, 4, 2);
    for (int s = 1; s < 9; s += 2) addLine(z, s, 0, s + 1);
    addLine(z, 9, 0);
    draw(z, 2, 2, 3, 2, 3, 3, 2, 3, 1, 3, 1, 2, 1, 1, 2, 1, 3, 1, 4, 2);
    dueAll("nine neighbours", whyAll(z), 5, 8, 1);
  }

  private static void whyFirst() {
    says("WHY a DRAWING isn't ALLOWED, the first of these");
    // station 6 last, so that each fault has others behind it
    LineMap x = mapOf(2, 2, 3, 2, 2, 3, 1, 2, 0, 4, 4, 4, 4, 0);
    addLine(x, 1, 0, 2);
    addLine(x, 3, 0);
    addLine(x, 4, 5);
    x.span(2);
    draw(x, 2, 2, 2, 2, 4, 3, 3, 2, 0, 4, 4, 4);
    dueAll("6 without a point", whyAll(x), 1, 6, NONE);
    x.place(6, 2, 4);
    dueAll("0 and 1 at one", whyAll(x), 2, 0, 1);
    x.place(1, 2, 3);
    dueAll("0 2 aslope", whyAll(x), 3, 1, NONE);
    x.place(2, 3, 2);
    x.place(3, 1, 1);
    dueAll("0 1 short", whyAll(x), 4, 0, NONE);
    x.span(1);
    dueAll("6 on 4 5", whyAll(x), 5, 3, 6);
    x.place(6, 0, 0);
    x.place(3, 0, 2);
    x.place(4, 1, 0);
    x.place(5, 1, 4);
    dueAll("0 3 and 4 5 cross", whyAll(x), 6, 2, 3);
    x.place(4, 0, 4);
    dueAll("the order round 0", whyAll(x), 7, 0, NONE);
    x.place(1, 3, 2);
    x.place(2, 2, 3);
    dueAll("nothing wrong", whyAll(x), 0, NONE, NONE);

    says("Of one sort the first: by STATION, by EDGE, by pairs of these (the lower first)");
    LineMap y = mapOf(0, 0, 1, 0, 2, 0, 3, 0, 4, 0, 5, 0);
    draw(y, 0, 0, 1, 1, 2, 2, 2, 2, 1, 1, 0, 0);
    dueAll("0 5 ahead of 1 4 and 2 3", whyAll(y), 2, 0, 5);
    draw(y, 0, 0, 1, 1, 1, 1, 1, 1, 0, 1, 0, 2);
    dueAll("1 2 ahead of 1 3 and 2 3", whyAll(y), 2, 1, 2);
    // edges 0: 0 1, 1: 2 3, 2: 4 5
    addLine(y, 4, 5);
    addLine(y, 2, 3);
    addLine(y, 0, 1);
    draw(y, 0, 0, 1, 0, 0, 1, 1, 3, 0, 4, 1, 2);
    dueAll("edges 1 and 2 aslope", whyAll(y), 3, 1, NONE);
    y.span(3);
    draw(y, 0, 0, 3, 0, 0, 1, 2, 1, 0, 4, 2, 4);
    dueAll("edges 1 and 2 short", whyAll(y), 4, 1, NONE);
    y.span(1);
    draw(y, 0, 0, 4, 0, 2, 0, 2, 4, 1, 0, 1, 4);
    dueAll("stations 2 and 4 on edge 0", whyAll(y), 5, 0, 2);
    draw(y, 0, 1, 4, 1, 1, 0, 1, 4, 2, 0, 2, 4);
    dueAll("edge 0 with 1 and with 2", whyAll(y), 6, 0, 1);
    draw(y, 0, 0, 0, 4, 1, 1, 4, 1, 2, 0, 2, 4);
    dueAll("edge 1 with 2", whyAll(y), 6, 1, 2);
    draw(y, 0, 1, 4, 1, 0, 3, 4, 3, 2, 0, 2, 4);
    dueAll("edge 0 with 2 ahead of 1 with 2", whyAll(y), 6, 0, 2);
  }

  private static void costBounds() {
    says("the turn between the step that comes and the one that goes (0 .. 4 eighths, the lesser way)");
    int[] eighths = {0, 1, 2, 3, 4, 3, 2, 1};
    for (int comes = 0; comes < 8; comes++) {
      for (int goes = 0; goes < 8; goes++) {
        LineMap x = mapOf(0, 0, 1, 0, 2, 0);
        addLine(x, 0, 1, 2);
        x.grid(3, 3);
        draw(x, 1 - DX[comes], 1 - DY[comes], 1, 1, 1 + DX[goes], 1 + DY[goes]);
        int turn = eighths[(goes - comes) & 7];
        // a turn right back leads to where the line comes from, which is not allowed
        due("cost(1) of " + comes + ", " + goes, x.cost(1), turn == 4 ? -6 : turn);
      }
    }

    says("the turn between its DIRECTION and the TRUE one");
    for (int truly = 0; truly < 8; truly++) {
      for (int drawn = 0; drawn < 8; drawn++) {
        LineMap x = mapOf(1, 1, 1 + DX[truly], 1 + DY[truly]);
        addLine(x, 1, 0);
        draw(x, 1, 1, 1 + DX[drawn], 1 + DY[drawn]);
        due("cost(3) of " + drawn + " for " + truly, x.cost(3), eighths[(drawn - truly) & 7]);
      }
    }

    says("of each LINE at each STATION within it");
    LineMap x = drawn(5, 5, 0, 0, 2, 0, 2, 2, 0, 2);
    dueAll("no line", costs(x), 0, 0, 0, 0);
    addLine(x);
    addLine(x, 1);
    dueAll("lines of none and of one", costs(x), 0, 0, 0, 0);
    addLine(x, 0, 1);
    dueAll("a line of two", costs(x), 2, 0, 2, 0);
    x.lead(2, 2);
    dueAll("a line of three", costs(x), 24, 2, 4, 0);
    x.lead(2, 3);
    addLine(x, 3, 0);
    dueAll("a ring of two lines, that bends where one has both steps", costs(x), 48, 4, 8, 0);

    says("BEND, WAY, TURN: 0 .. 100 (10, 1, 3 at first)");
    LineMap y = drawn(5, 5, 0, 0, 2, 0, 2, 2);
    addLine(y, 0, 1, 2);
    y.place(2, 3, 1);
    dueAll("at first", costs(y), 10 + 3 + 3, 1, 3, 1);
    for (int n : outside(0, 100)) {
      due("terms(" + n + ", 0, 0)", y.terms(n, 0, 0), -1);
      due("terms(0, " + n + ", 0)", y.terms(0, n, 0), -1);
      due("terms(0, 0, " + n + ")", y.terms(0, 0, n), -1);
    }
    dueAll("refused ones change none", costs(y), 10 + 3 + 3, 1, 3, 1);
    for (int bits = 0; bits < 8; bits++) {
      int bend = (bits & 1) * 100;
      int way = (bits >> 1 & 1) * 100;
      int turn = (bits >> 2) * 100;
      due("terms(" + bend + ", " + way + ", " + turn + ")", y.terms(bend, way, turn), 0);
      dueAll("costs", costs(y), bend + 3 * way + turn, 1, 3, 1);
    }

    says("-1; -6.");
    LineMap z = mapOf(0, 0);
    for (int k = 0; k < 4; k++) due("cost(" + k + ") where it isn't allowed", z.cost(k), -6);
    for (int k : outside(0, 3)) due("cost(" + k + ") where it isn't allowed", z.cost(k), -1);
    z.place(0, 0, 0);
    for (int k : outside(0, 3)) due("cost(" + k + ")", z.cost(k), -1);
  }

  // Terms III

  private static void bestBounds() {
    says("for at most 5 STATIONS on a GRID of at most 25 POINTS");
    for (int w = 2; w <= 8; w++) {
      for (int h = 2; h <= 8; h++) {
        LineMap x = new LineMap();
        x.grid(w, h);
        due("best() on " + w + ", " + h, x.best(), w * h <= 25 ? 0 : -5);
      }
    }
    LineMap x = new LineMap();
    for (int s = 0; s < 10; s++) {
      due("best() of " + s, x.best(), s <= 5 ? 0 : -5);
      x.station(s, 0);
    }
    due("best() of 10", x.best(), -5);

    says("-5; -6 there is none");
    x.grid(2, 2);
    due("best() of 10 on 4 points", x.best(), -5);

    says("-6 there is none (it stays as it was)");
    LineMap y = mapOf(0, 0, 1, 0, 1, 1, 0, 1);
    y.grid(2, 2);
    due("best() of 4 on 4 points", y.best(), 0);
    dueAll("points", points(y), 0, 1, 2, 3);
    addLine(y, 0, 1, 2, 3);
    addLine(y, 3, 0);
    due("best() of a ring on 4 points", y.best(), 2 * 20 + 4);
    dueAll("points", points(y), 0, 1, 3, 2);
    addLine(y, 0, 2);
    due("best() of a ring and one across", y.best(), 2 * 20 + 5);
    addLine(y, 1, 3);
    y.place(0, 1, 1);
    y.place(3, 1, 1);
    y.hold(3, true);
    due("best() of a ring and two across", y.best(), -6);
    dueAll("points", points(y), 3, 1, 3, 3);
    due("count(3)", y.count(3), 1);
    LineMap z = mapOf(0, 0, 1, 0, 1, 1, 0, 1, 2, 2);
    z.grid(2, 2);
    due("best() of 5 on 4 points", z.best(), -6);
    dueAll("points", points(z), NONE, NONE, NONE, NONE, NONE);
    z.grid(2, 3);
    due("best() of 5 on 6 points", z.best(), 0);
    dueAll("points", points(z), 0, 1, 2, 3, 4);
    LineMap u = mapOf(0, 0, 1, 0);
    addLine(u, 0, 1);
    u.span(4);
    u.grid(4, 4);
    due("best() of a span that the grid has not", u.best(), -6);
    u.grid(5, 4);
    due("best() of a span that the grid just has", u.best(), 4);
    dueAll("points", points(u), 0, 4);
    u.grid(4, 5);
    due("best() of a span that it has along y", u.best(), 4 + 2 * 3);
    dueAll("points", points(u), 0, 16);

    says("those that are HELD staying");
    LineMap v = mapOf(0, 0, 1, 0, 2, 0, 3, 0, 4, 0);
    addLine(v, 0, 1, 2, 3, 4);
    v.place(4, 4, 4);
    v.hold(4, true);
    due("best() with the last at the last point", v.best(), 4);
    dueAll("points", points(v), 20, 21, 22, 23, 24);
    for (int s = 0; s < 4; s++) v.hold(s, true);
    due("best() with all held", v.best(), 4);
    dueAll("points", points(v), 20, 21, 22, 23, 24);
    v.hold(3, false);
    v.place(3, 3, 1);
    v.hold(3, true);
    due("best() with all held, not allowed", v.best(), -6);
    dueAll("points", points(v), 20, 21, 22, 8, 24);
    v.hold(3, false);
    v.place(3, 4, 4);
    v.hold(3, true);
    due("best() with two held at one point", v.best(), -6);
    due("count(3)", v.count(3), 5);

    // as far as an edge can be: 7 steps, along x and along y
    LineMap along = mapOf(0, 0, 1, 0, 9, 9);
    addLine(along, 0, 1);
    along.grid(8, 3);
    along.place(0, 0, 1);
    along.place(1, 7, 1);
    along.hold(0, true);
    along.hold(1, true);
    due("best() of an edge of 7 along x", along.best(), 7);
    dueAll("points", points(along), 8, 15, 0);
    along.grid(2, 8);
    along.place(0, 0, 0);
    along.place(1, 0, 7);
    along.hold(0, true);
    along.hold(1, true);
    due("best() of an edge of 7 along y", along.best(), 7 + 2 * 3);
    dueAll("points", points(along), 0, 14, 1);

    says("of those alike the first by POINTS of STATIONS 0, 1, ...");
    LineMap w = mapOf(4, 4, 3, 3, 2, 2, 1, 1, 0, 0);
    due("best() of 5 on 25 points without lines", w.best(), 0);
    dueAll("points", points(w), 0, 1, 2, 3, 4);
    w.place(2, 0, 0);
    w.hold(2, true);
    due("best() with 2 at the first point", w.best(), 0);
    dueAll("points", points(w), 1, 2, 0, 3, 4);
    addLine(w, 0, 1);
    w.terms(0, 0, 0);
    w.span(2);
    due("best() of a free drawing", w.best(), 0);
    dueAll("points", points(w), 1, 3, 0, 4, 5);
  }

  private static void betterBounds() {
    says("as long as one that is not HELD, at another POINT, is ALLOWED and makes COST less");
    due("better() of none", new LineMap().better(), 0);
    LineMap x = mapOf(0, 0, 1, 0);
    addLine(x, 0, 1);
    draw(x, 0, 0, 4, 4);
    x.hold(0, true);
    x.hold(1, true);
    due("better() with all held", x.better(), 0);
    dueAll("points", points(x), 0, 24);
    x.hold(1, false);
    due("better() with one held", x.better(), 1);
    dueAll("points", points(x), 0, 1);
    due("better() of one that is least", x.better(), 0);
    x.terms(0, 0, 0);
    x.place(1, 4, 4);
    due("better() where all is alike", x.better(), 0);
    dueAll("points", points(x), 0, 24);
    betterByOne();
    // on a full grid no one can go anywhere
    LineMap full = mapOf(0, 0, 1, 0, 0, 1, 1, 1);
    full.grid(2, 2);
    addLine(full, 0, 1);
    draw(full, 1, 0, 0, 0, 0, 1, 1, 1);
    due("cost(0) of a full grid", full.cost(0), 1 + 3 * 4);
    due("better() of a full grid", full.better(), 0);

    says("50 changes at most");
    fiftyChanges(new int[] {9, 63, 62, 1, 39, 47, 16, 54, 49, 46}, 50, 1079, 0);
    fiftyChanges(new int[] {9, 63, 62, 1, 39, 47, 0, 54, 49, 46}, 50, 1081, 1);
    fiftyChanges(new int[] {1, 63, 62, 4, 7, 55, 0, 54, 49, 6}, 50, 1189, 10);

    says("(of those alike the lower STATION, then POINT)");
    LineMap y = mapOf(0, 0, 1, 0);
    addLine(y, 1, 0);
    y.terms(0, 1, 0);
    draw(y, 0, 0, 4, 4);
    due("better()", y.better(), 1);
    dueAll("the lower comes to the first of the points beside the other", points(y), 18, 24);
    draw(y, 0, 0, 4, 4);
    y.hold(0, true);
    due("better()", y.better(), 1);
    dueAll("the higher comes to the first of the points beside the other", points(y), 0, 1);
  }

  /** Six lines of all the stations that there can be, drawn to the right and back. */
  private static void fullMap() {
    says("STATIONS 0 .. 9 (10 at most)");
    LineMap x = drawn(5, 5, 0, 0, 1, 0, 2, 0, 3, 0, 4, 0, 4, 1, 3, 1, 2, 1, 1, 1, 0, 1);
    says("LINES 0 .. 5 (6 at most)");
    for (int l = 0; l < 6; l++) {
      if (l % 2 == 0) addLine(x, 0, 1, 2, 3, 4, 5, 6, 7, 8, 9);
      else addLine(x, 9, 8, 7, 6, 5, 4, 3, 2, 1, 0);
    }
    due("edge(-1, 0)", x.edge(-1, 0), 9);
    dueAll("why", whyAll(x), 0, NONE, NONE);
    dueAll("costs", costs(x), 6 * 40 + 9, 6 * 4, 9, 0);
    for (int s = 0; s < 9; s++) x.hold(s, true);
    x.place(9, 0, 2);
    dueAll("costs with 9 a row lower", costs(x), 6 * 50 + 9 + 3, 6 * 5, 9, 1);
    due("better()", x.better(), 1);
    due("point(9)", x.point(9), 5);
    for (int s = 0; s < 10; s++) due("name(" + s + ", 12)", x.name(s, 12), 0);
    due("put()", x.put(), 9);
    int[] want = {1, 5, 7, NONE, 0, 0, 1, 3, 5, 4};
    for (int s = 0; s < 10; s++) due("named(" + s + ", 0)", x.named(s, 0), want[s]);
    due("named(3, 1)", x.named(3, 1), 4);
    LineMap five = mapOf(0, 0, 1, 0, 2, 0, 3, 0, 4, 0);
    for (int l = 0; l < 6; l++) addLine(five, 4, 3, 2, 1, 0);
    due("best()", five.best(), 4);
    dueAll("points", points(five), 0, 1, 2, 3, 4);
  }

  private static void betterByOne() {
    LineMap x = mapOf(0, 0, 1, 0);
    addLine(x, 0, 1);
    draw(x, 0, 0, 2, 0);
    x.hold(0, true);
    due("better() by a cost of 1", x.better(), 1);
    dueAll("points", points(x), 0, 1);
    // to the first point, and to the last one
    LineMap first = mapOf(0, 0, 1, 0);
    addLine(first, 0, 1);
    draw(first, 2, 0, 1, 0);
    first.hold(1, true);
    due("better() to the first point", first.better(), 1);
    dueAll("points", points(first), 0, 1);
    LineMap last = mapOf(0, 0, 1, 0);
    addLine(last, 0, 1);
    draw(last, 3, 4, 2, 4);
    last.hold(0, true);
    due("better() to the last point", last.better(), 1);
    dueAll("points", points(last), 23, 24);
    // the next row would be the true direction, if there were one
    LineMap border = mapOf(0, 0, 0, 1);
    addLine(border, 0, 1);
    draw(border, 0, 4, 1, 4);
    border.hold(0, true);
    due("better() at the border", border.better(), 0);
    dueAll("points", points(border), 20, 21);
    LineMap corner = mapOf(0, 0, 1, 0);
    addLine(corner, 0, 1);
    draw(corner, 4, 1, 4, 2);
    corner.hold(0, true);
    due("better() at the right border, which does not go on at the left", corner.better(), 0);
    dueAll("points", points(corner), 9, 14);
  }

  /** A long row of stations that creeps to the one that is held, a step a change. */
  private static void fiftyChanges(int[] at, int changes, int cost, int more) {
    int[] trueX = {116, 96, 455, 11, 391, 409, 290, 632, 559, 212};
    int[] trueY = {92, 315, 288, 91, 845, 721, 560, 900, 192, 978};
    LineMap x = new LineMap();
    for (int s = 0; s < 10; s++) x.station(trueX[s], trueY[s]);
    addLine(x, 5, 4);
    addLine(x, 0, 6);
    addLine(x, 2, 7, 9, 4);
    addLine(x, 7, 8, 0, 3);
    addLine(x, 1, 7, 5);
    x.grid(8, 8);
    x.terms(2, 90, 11);
    for (int s = 0; s < 10; s++) x.place(s, at[s] % 8, at[s] / 8);
    x.hold(8, true);
    due("better()", x.better(), changes);
    due("cost(0)", x.cost(0), cost);
    due("better() once more", x.better(), more);
    due("cost(0)", x.cost(0), 1079);
    dueAll("points", points(x), 40, 43, 51, 32, 33, 42, 48, 50, 49, 41);
    due("better() for the third time", x.better(), 0);
  }

  // Terms IV

  private static void nameBounds() {
    says("NAMES are as long as told (0 .. 12 signs; 0: none)");
    LineMap x = drawn(5, 5, 1, 1);
    int was = 0;
    for (int n : new int[] {12, 0, 1, 11, 0}) {
      for (int bad : outside(0, 12)) due("name(0, " + bad + ")", x.name(0, bad), -1);
      due("name(0, " + n + ")", x.name(0, n), was);
      was = n;
      due("put() of " + n + " signs", x.put(), n == 0 ? 0 : 1);
      due("named(0, 0)", x.named(0, 0), n == 0 ? NONE : 0);
      due("named(0, 1)", x.named(0, 1), NONE);
    }

    says("of 0, 1, 7 its first cell is at 4 x + 1");
    LineMap right = drawn(5, 5, 2, 2, 3, 0, 3, 4);
    addLine(right, 1, 2);
    places("an edge 4 cells off on the right", right, 0, 0, 0, 2, 2, 2, 2, 2, 3, 3, 3, 3);

    says("of 3, 4, 5 at 4 x - n");
    LineMap left = drawn(5, 5, 2, 2, 1, 0, 1, 4, 3, 2, 3, 3, 2, 3);
    addLine(left, 1, 2);
    addLine(left, 3, 0, 4);
    addLine(left, 5, 0);
    places("an edge 4 cells off on the left", left, 3, 3, 3, 6, 6, 6, 6, 7, 7, 7, 7, 7);
    LineMap level = drawn(5, 5, 2, 2, 3, 2, 3, 3, 2, 3, 1, 3, 1, 2);
    addLine(level, 1, 0, 2);
    addLine(level, 3, 0, 4);
    places("a station 4 cells off on the left", level, 4, 4, 4, 5, 5, 5, 5, 5, 5, 5, 5, 5);
    LineMap above = drawn(5, 5, 2, 2, 3, 2, 3, 3, 2, 3, 1, 3, 1, 2, 1, 1);
    addLine(above, 1, 0, 2);
    addLine(above, 3, 0, 4);
    addLine(above, 0, 5, 6);
    places("an edge 4 cells off above on the left", above, 5, 5, 5, 6, 6, 6, 6, 7, 7, 7, 7, 7);

    says("of 2, 6 at 4 x - n / 2 (cut)");
    LineMap two = star(2);
    places("edges in 0 and 1", two, 2, 2, 3, 3, 3, 3, 3, 3, 3, 3, 3, 3);
    LineMap six = star(6);
    places("edges in 0 to 5", six, 6, 7, 7, 7, 7, 7, 7, 7, 7, 7, 7, 7);

    says("it lies at 4 y for 0, 4, at 4 y + 1 for 1, 2, 3, at 4 y - 1 for 5, 6, 7");
    for (int n = 0; n < 8; n++) {
      LineMap only = star(n);
      only.name(0, 1);
      due("put() with edges in 0 to " + (n - 1), only.put(), 1);
      due("named(0, 0)", only.named(0, 0), n);
    }
    LineMap seven = drawn(5, 5, 2, 2, 3, 2, 3, 3, 2, 3, 1, 3, 1, 2, 1, 1, 2, 1, 3, 1);
    addLine(seven, 8, 1, 0, 2);
    addLine(seven, 3, 0, 4);
    addLine(seven, 5, 0, 6);
    addLine(seven, 7, 0);
    places("edges in 0 to 6, and one 4 cells off above", seven, 7, 7, 7, -1, -1, -1, -1, -1, -1, -1, -1, -1);
    due("named(0, 1)", seven.named(0, 1), 1);
  }

  /** Where the name of station 0 is put with 1, 2, .. 12 signs. */
  private static void places(String what, LineMap x, int... want) {
    due("why(0) with " + what, x.why(0), 0);
    for (int n = 1; n <= 12; n++) {
      x.name(0, n);
      due("put() of " + n + " signs with " + what, x.put(), want[n - 1] == NONE ? 0 : 1);
      due("named(0, 0) of " + n + " signs with " + what, x.named(0, 0), want[n - 1]);
    }
  }

  /** Station 0 amid neighbours 1 .. n in directions 0 .. n - 1. */
  private static LineMap star(int n) {
    LineMap x = hub(n);
    drawRound(x, inTurn(n, 0));
    due("why(0) of a star", x.why(0), 0);
    return x;
  }

  private static void putBounds() {
    says("an EDGE on all cells from one end to the other");
    // the cells of 5 .. 7 beside 4, 4: an upright edge at 8, an aslant one at 7 on level 5
    LineMap upright = drawn(5, 5, 1, 1, 2, 1, 2, 2);
    addLine(upright, 1, 2);
    upright.name(0, 4);
    due("put()", upright.put(), 1);
    due("named(0, 0) beside an edge's two ends", upright.named(0, 0), 2);
    LineMap aslant = drawn(5, 5, 1, 1, 2, 1, 1, 2);
    addLine(aslant, 1, 2);
    int[] want = {0, 0, 0, 2, 2, 2, 3};
    for (int n = 1; n <= 7; n++) {
      aslant.name(0, n);
      due("put()", aslant.put(), 1);
      due("named(0, 0) of " + n + " signs beside an edge aslant", aslant.named(0, 0), want[n - 1]);
    }

    says("PUT: in an ALLOWED DRAWING, STATION by STATION: each NAME at its lowest PLACE");
    LineMap lower = drawn(5, 5, 1, 1, 2, 1, 3, 1);
    addLine(lower, 0, 1, 2);
    lower.name(0, 12);
    lower.name(1, 12);
    due("put()", lower.put(), 2);
    dueAll("the left one first", new int[] {lower.named(0, 0), lower.named(1, 0)}, 1, 5);
    LineMap higher = drawn(5, 5, 2, 1, 1, 1, 3, 1);
    addLine(higher, 1, 0, 2);
    higher.name(0, 12);
    higher.name(1, 12);
    due("put()", higher.put(), 2);
    dueAll("the right one first", new int[] {higher.named(0, 0), higher.named(1, 0)}, 1, 3);

    says("or another NAME's that was put");
    LineMap boxed = drawn(5, 5, 1, 2, 0, 0, 0, 4, 2, 0, 2, 3, 3, 2, 4, 2, 4, 3, 3, 3);
    addLine(boxed, 1, 2);
    addLine(boxed, 3, 4);
    addLine(boxed, 6, 5, 7);
    addLine(boxed, 8, 5, 4);
    boxed.name(0, 8);
    boxed.name(5, 3);
    due("put()", boxed.put(), 1);
    dueAll("one that is not put hinders none", new int[] {boxed.named(0, 0), boxed.named(0, 1), boxed.named(5, 0)}, NONE, 5, 4);

    says("A NAME of n signs lies on n cells side by side");
    outsideTheGrid();

    says("else it is not put, and HINDERED by what lies on PLACE 0");
    hindered();

    says("kept as the latest");
    latest();
  }

  /** A name may lie beyond the border, does not come in again on the other side, and hinders there. */
  private static void outsideTheGrid() {
    LineMap x = drawn(3, 3, 0, 1, 1, 1, 1, 2, 0, 2, 2, 1);
    addLine(x, 1, 0, 2);
    addLine(x, 3, 0);
    x.name(0, 12);
    x.name(4, 12);
    due("put()", x.put(), 2);
    due("named(0, 0) at the left border", x.named(0, 0), 3);
    due("named(4, 0) at the right border", x.named(4, 0), 0);
    LineMap top = drawn(3, 2, 1, 0, 2, 0, 2, 1, 1, 1, 0, 1, 0, 0);
    addLine(top, 1, 0, 2);
    addLine(top, 3, 0, 4);
    addLine(top, 5, 0);
    top.name(0, 12);
    due("put()", top.put(), 1);
    due("named(0, 0) at the upper border", top.named(0, 0), 5);
    LineMap bottom = drawn(3, 2, 1, 1, 2, 1);
    addLine(bottom, 0, 1);
    bottom.name(0, 12);
    due("put()", bottom.put(), 1);
    due("named(0, 0) at the lower border", bottom.named(0, 0), 1);
    LineMap both = drawn(3, 3, 1, 1, 0, 1, 2, 1, 2, 2, 1, 2);
    addLine(both, 2, 0, 3);
    addLine(both, 4, 0);
    both.name(0, 12);
    both.name(1, 12);
    due("put()", both.put(), 2);
    dueAll("two beyond the left border", new int[] {both.named(0, 0), both.named(1, 0)}, 3, 4);
  }

  private static void hindered() {
    // hub 1 amid 2 .. 9, and 0 behind 2: the farther one has the lower number
    LineMap x = drawn(4, 3, 3, 1, 1, 1, 2, 1, 2, 2, 1, 2, 0, 2, 0, 1, 0, 0, 1, 0, 2, 0);
    addLine(x, 2, 1, 3);
    addLine(x, 4, 1, 5);
    addLine(x, 6, 1, 7);
    addLine(x, 8, 1, 9);
    int[] by = {100, 100, 100, 2, 2, 2, 2, 0, 0, 0, 0, 0};
    for (int n = 1; n <= 12; n++) {
      x.name(1, n);
      due("put()", x.put(), 0);
      dueAll("named(1) of " + n + " signs", new int[] {x.named(1, 0), x.named(1, 1)}, NONE, by[n - 1]);
    }
    // edges 0 .. 2 stand upright 16, 8 and -4 cells off: the farther one has the lower number
    LineMap y = drawn(5, 5, 4, 0, 4, 4, 2, 0, 2, 4, 0, 0, 0, 4, 1, 2);
    addLine(y, 0, 1);
    addLine(y, 2, 3);
    addLine(y, 4, 5);
    for (int n = 7; n <= 12; n++) {
      y.name(6, n);
      due("put()", y.put(), n == 7 ? 1 : 0);
      dueAll("named(6) of " + n + " signs", new int[] {y.named(6, 0), y.named(6, 1)}, n == 7 ? 2 : NONE, n == 7 ? NONE : n == 12 ? 100 : 101);
    }
    hinderedByNames();
  }

  /** Station 1 (0 in the other map) has edges in 0 to 3, so that its name lies at place 4. */
  private static void hinderedByNames() {
    LineMap x = drawn(7, 5, 6, 2, 5, 2, 6, 3, 5, 3, 4, 3, 1, 2, 0, 0, 0, 4, 2, 3, 2, 1);
    addLine(x, 0, 1, 2);
    addLine(x, 3, 1, 4);
    addLine(x, 6, 7);
    addLine(x, 8, 5, 9);
    x.name(5, 8);
    x.name(1, 7);
    due("put()", x.put(), 2);
    dueAll("up to the name of 1", new int[] {x.named(1, 0), x.named(5, 0), x.named(5, 1)}, 4, 0, NONE);
    x.name(1, 8);
    due("put()", x.put(), 1);
    dueAll("a cell on the name of 1", new int[] {x.named(1, 0), x.named(5, 0), x.named(5, 1)}, 4, NONE, 201);
    // edge 5 stands upright between 9 and the name of 0
    LineMap y = drawn(7, 5, 5, 2, 6, 2, 6, 3, 5, 3, 4, 3, 0, 0, 0, 4, 2, 0, 2, 4, 1, 2);
    addLine(y, 1, 0, 2);
    addLine(y, 3, 0, 4);
    addLine(y, 5, 6);
    addLine(y, 7, 8);
    y.name(0, 4);
    y.name(9, 12);
    due("put()", y.put(), 1);
    dueAll("an edge ahead of a name", new int[] {y.named(0, 0), y.named(9, 0), y.named(9, 1)}, 4, NONE, 105);
  }

  private static void latest() {
    LineMap x = drawn(5, 5, 1, 1, 2, 1);
    addLine(x, 0, 1);
    due("named(0, 0) without any", x.named(0, 0), NONE);
    due("named(0, 1) without any", x.named(0, 1), NONE);
    x.name(0, 2);
    due("put()", x.put(), 1);
    x.name(0, 0);
    x.name(1, 3);
    x.station(900, 900);
    due("put() where it isn't allowed", x.put(), -6);
    dueAll("named", new int[] {x.named(0, 0), x.named(1, 0), x.named(2, 0)}, 1, NONE, NONE);
    x.place(2, 4, 4);
    due("put() where it is", x.put(), 1);
    dueAll("named", new int[] {x.named(0, 0), x.named(1, 0), x.named(2, 0)}, NONE, 0, NONE);
  }

  // images and answers of NONE

  private static void imageBounds() {
    says("IMAGE k (0 .. 2)");
    LineMap x = mapOf(0, 0);
    for (int k : outside(0, 2)) {
      due("image(" + k + ")", x.image(k), -1);
      due("back(" + k + ")", x.back(k), -1);
    }
    for (int k = 0; k < 3; k++) {
      for (int later = k; later < 3; later++) due("back(" + later + ") ahead of it", x.back(later), -6);
      x.grid(5, 5);
      x.place(0, k, k);
      due("image(" + k + ")", x.image(k), 0);
    }
    for (int k = 2; k >= 0; k--) {
      due("back(" + k + ")", x.back(k), 0);
      due("point(0)", x.point(0), 6 * k);
    }

    says("POINTS and what is HELD, of the STATIONS that there are, and the GRID are kept");
    LineMap y = new LineMap();
    due("image(0) of nothing", y.image(0), 0);
    y.grid(2, 8);
    for (int s = 0; s < 10; s++) {
      y.station(s, s);
      y.place(s, s % 2, s / 2);
      y.hold(s, s % 3 == 0);
    }
    due("image(1) of all that there can be", y.image(1), 0);
    y.grid(8, 2);
    due("back(1)", y.back(1), 0);
    dueAll("points", points(y), 0, 1, 2, 3, 4, 5, 6, 7, 8, 9);
    dueAll("grid", new int[] {y.count(4), y.count(5)}, 2, 8);
    due("count(3)", y.count(3), 4);
    for (int s = 0; s < 10; s++) due("place(" + s + ", 0, 0)", y.place(s, 0, 0), s % 3 == 0 ? -6 : 0);
    due("image(1) once more", y.image(1), 0);
    due("back(1)", y.back(1), 0);
    dueAll("points", points(y), 0, 0, 0, 3, 0, 0, 6, 0, 0, 9);

    says("They are as IMAGE k has them (later STATIONS without POINTS)");
    due("back(0) to nothing", y.back(0), 0);
    dueAll("points", points(y), NONE, NONE, NONE, NONE, NONE, NONE, NONE, NONE, NONE, NONE);
    dueAll("how many have them, are held", new int[] {y.count(2), y.count(3)}, 0, 0);
    dueAll("grid", new int[] {y.count(4), y.count(5)}, 5, 5);
    due("count(0)", y.count(0), 10);
    LineMap z = mapOf(0, 0);
    z.place(0, 3, 3);
    z.hold(0, true);
    z.image(2);
    z.station(900, 900);
    z.place(1, 2, 2);
    z.hold(1, true);
    due("back(2) with a later one", z.back(2), 0);
    dueAll("points", points(z), 18, NONE);
    due("count(3)", z.count(3), 1);
    due("hold(1, true)", z.hold(1, true), -2);
    due("place(1, 0, 0)", z.place(1, 0, 0), 0);
    due("place(0, 0, 0)", z.place(0, 0, 0), -6);

    says("-1; -6 it was not kept");
    for (int k = 0; k < 2; k++) due("back(" + k + ")", z.back(k), -6);
    due("back(3)", z.back(3), -1);
  }

  private static void answersOfNone() {
    LineMap x = mapOf(0, 0, 1, 0, 2, 0);
    addLine(x, 2, 0, 1);
    addLine(x);
    says("STATION i of a LINE; how many (i -1). NONE.");
    for (int i : outside(-1, 2)) due("of(0, " + i + ")", x.of(0, i), NONE);
    for (int i = -2; i < 3; i++) due("of(1, " + i + ") of an empty line", x.of(1, i), i == -1 ? 0 : NONE);
    for (int l : outside(0, 1)) {
      for (int i = -1; i < 2; i++) due("of(" + l + ", " + i + ")", x.of(l, i), NONE);
    }
    dueAll("of(0, ..)", new int[] {x.of(0, -1), x.of(0, 0), x.of(0, 1), x.of(0, 2)}, 3, 2, 0, 1);

    says("how many EDGES (edge -1, what 0). NONE.");
    for (int e : outside(-1, 1)) due("edge(" + e + ", 0)", x.edge(e, 0), NONE);
    for (int k : outside(0, 2)) due("edge(0, " + k + ")", x.edge(0, k), NONE);
    for (int k : new int[] {-1, 1, 2, 3}) due("edge(-1, " + k + ")", x.edge(-1, k), NONE);
    due("edge(-1, 0)", x.edge(-1, 0), 2);

    says("Neighbour i of a STATION, by true angles from that along x on; how many (i -1). NONE.");
    for (int i : outside(-1, 1)) due("round(0, " + i + ")", x.round(0, i), NONE);
    for (int s : outside(0, 2)) {
      for (int i = -1; i < 2; i++) due("round(" + s + ", " + i + ")", x.round(s, i), NONE);
    }
    dueAll("round(0, ..)", new int[] {x.round(0, -1), x.round(0, 0), x.round(0, 1)}, 2, 1, 2);

    says("Its POINT; NONE.");
    x.place(1, 4, 4);
    dueAll("points", points(x), NONE, 24, NONE);
    for (int s : outside(0, 2)) due("point(" + s + ")", x.point(s), NONE);

    says("-2 (without a POINT, too)");
    for (boolean is : new boolean[] {true, false}) {
      for (int s : outside(0, 2)) due("hold(" + s + ", " + is + ")", x.hold(s, is), -2);
      due("hold(0, " + is + ")", x.hold(0, is), -2);
      due("hold(1, " + is + ")", x.hold(1, is), 0);
      due("hold(1, " + is + ") again", x.hold(1, is), 0);
      due("count(3)", x.count(3), is ? 1 : 0);
    }

    says("-1 another what");
    for (int k : outside(0, 2)) due("why(" + k + ")", x.why(k), -1);
    LineMap shared = drawn(5, 5, 1, 1, 2, 2, 3, 3);
    shared.place(1, 3, 3);
    dueAll("two at one", whyAll(shared), 2, 1, 2);
    for (int k : outside(0, 2)) due("why(" + k + ") of two at one", shared.why(k), -1);

    says("NONE: not put, or none");
    draw(x, 0, 0, 2, 0, 0, 1);
    x.name(0, 2);
    due("put()", x.put(), 1);
    for (int k : outside(0, 1)) due("named(0, " + k + ")", x.named(0, k), NONE);
    for (int s : outside(0, 2)) dueAll("named(" + s + ")", new int[] {x.named(s, 0), x.named(s, 1)}, NONE, NONE);
    dueAll("named(0), named(1)", new int[] {x.named(0, 0), x.named(0, 1), x.named(1, 0), x.named(1, 1)}, 1, NONE, NONE, NONE);

    says("0 STATIONS, 1 LINES, 2 those with POINTS, 3 HELD ones, 4 W, 5 H, 6 SPAN. NONE for others.");
    for (int k : outside(0, 6)) due("count(" + k + ")", x.count(k), NONE);
    dueAll("counts", new int[] {x.count(0), x.count(1), x.count(2), x.count(3), x.count(4), x.count(5), x.count(6)}, 3, 2, 3, 0, 5, 5, 1);
  }
}

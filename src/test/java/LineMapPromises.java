/** Promise by promise: ordinary inputs, the edges that the document names, and wrong inputs. */
public final class LineMapPromises {
  private static int wrong = 0;
  private static int promise = 0;

  private static void due(String call, long got, long want) {
    if (got != want) {
      wrong++;
      System.out.println("promise " + promise + ": " + call + " answered " + got + ", due is " + want);
    }
  }

  /** Several answers in one row. */
  private static void dueAll(String call, int[] got, int... want) {
    due(call + ": how many", got.length, want.length);
    for (int i = 0; i < Math.min(got.length, want.length); i++) due(call + " [" + i + "]", got[i], want[i]);
  }

  public static void main(String[] args) {
    promise = 1; newObject();
    promise = 2; station();
    promise = 3; line();
    promise = 4; lead();
    promise = 5; of();
    promise = 6; edge(); trueDirections();
    promise = 7; round();
    promise = 8; grid();
    promise = 9; span();
    promise = 10; terms();
    promise = 11; place();
    promise = 12; point();
    promise = 13; hold();
    promise = 14; why(); whyOrder(); whyFirst(); whyRing();
    promise = 15; cost();
    promise = 16; best(); bestHeld(); bestNone(); bestTooGreat(); bestTies(); bestWeighs(); bestKnotty();
    promise = 17; better(); betterTies(); betterHeld(); betterShut();
    promise = 18; name();
    promise = 19; put();
    promise = 20; named(); namedPlaces(); namedHindered();
    promise = 21; image();
    promise = 22; back();
    promise = 23; count();
    promise = 24; status();
    System.out.println(wrong == 0 ? "all promises are kept" : wrong + " answers are not as due");
    if (wrong != 0) System.exit(1);
  }

  private static final int LEAST = Integer.MIN_VALUE;
  private static final int MOST = Integer.MAX_VALUE;

  /** Stations at 100 times the given places. */
  private static LineMap mapOf(int... places) {
    LineMap x = new LineMap();
    for (int i = 0; i + 1 < places.length; i += 2) x.station(100 * places[i], 100 * places[i + 1]);
    return x;
  }

  private static void addLine(LineMap x, int... stations) {
    int l = x.line();
    for (int s : stations) due("lead", x.lead(l, s) > 0 ? 1 : 0, 1);
  }

  private static void draw(LineMap x, int... places) {
    for (int i = 0; i + 1 < places.length; i += 2) due("place", x.place(i / 2, places[i], places[i + 1]), 0);
  }

  private static int[] points(LineMap x) {
    int[] p = new int[x.count(0)];
    for (int s = 0; s < p.length; s++) p[s] = x.point(s);
    return p;
  }

  private static int[] whyAll(LineMap x) {
    return new int[] {x.why(0), x.why(1), x.why(2)};
  }

  private static void newObject() {
    LineMap x = new LineMap();
    for (int k = 0; k < 7; k++) due("count(" + k + ")", x.count(k), new int[] {0, 0, 0, 0, 5, 5, 1}[k]);
    due("NONE", LineMap.NONE, -1);
    due("status()", x.status(), 0);
    due("edge(-1, 0)", x.edge(-1, 0), 0);
    due("of(0, -1)", x.of(0, -1), -1);
    due("round(0, -1)", x.round(0, -1), -1);
    due("point(0)", x.point(0), -1);
    due("named(0, 0)", x.named(0, 0), -1);
    dueAll("why", whyAll(x), 0, -1, -1);
    due("cost(0)", x.cost(0), 0);
    due("better()", x.better(), 0);
    due("put()", x.put(), 0);
    due("best()", x.best(), 0);
    for (int k = 0; k < 3; k++) due("back(" + k + ")", x.back(k), -6);
    due("lead(0, 0)", x.lead(0, 0), -2);
    due("station(0, 0) of another object", new LineMap().station(0, 0), 0);
  }

  private static void station() {
    LineMap x = new LineMap();
    due("station(0, 0)", x.station(0, 0), 0);
    due("station(1000, 1000)", x.station(1000, 1000), 1);
    due("station(0, 1000)", x.station(0, 1000), 2);
    due("station(1000, 0)", x.station(1000, 0), 3);
    for (int n : new int[] {-1, 1001, LEAST, MOST}) {
      due("station(" + n + ", 5)", x.station(n, 5), -1);
      due("station(5, " + n + ")", x.station(5, n), -1);
    }
    due("station(0, 1000)", x.station(0, 1000), -4);
    due("status()", x.status(), -4);
    due("count(0)", x.count(0), 4);
    for (int s = 4; s < 10; s++) due("station(" + s + ", 7)", x.station(s, 7), s);
    due("station(500, 500)", x.station(500, 500), -5);
    due("station(9, 7)", x.station(9, 7), -4);
    due("station(1001, 7)", x.station(1001, 7), -1);
    due("count(0)", x.count(0), 10);
    due("point(9)", x.point(9), -1);
  }

  private static void line() {
    LineMap x = new LineMap();
    for (int l = 0; l < 6; l++) {
      due("line()", x.line(), l);
      due("of(" + l + ", -1)", x.of(l, -1), 0);
    }
    due("line()", x.line(), -5);
    due("status()", x.status(), -5);
    due("count(1)", x.count(1), 6);
    due("of(6, -1)", x.of(6, -1), -1);
  }

  private static void lead() {
    LineMap x = mapOf(0, 0, 1, 0, 2, 0, 3, 0, 4, 0, 5, 0, 6, 0, 7, 0, 8, 0, 9, 0);
    due("lead(0, 0) without lines", x.lead(0, 0), -2);
    x.line();
    x.line();
    for (int n : new int[] {-1, 2, LEAST, MOST}) due("lead(" + n + ", 0)", x.lead(n, 0), -2);
    for (int n : new int[] {-1, 10, LEAST, MOST}) due("lead(0, " + n + ")", x.lead(0, n), -2);
    for (int s = 0; s < 10; s++) due("lead(0, " + s + ")", x.lead(0, s), s + 1);
    for (int s = 0; s < 10; s++) due("lead(0, " + s + ") again", x.lead(0, s), -4);
    due("status()", x.status(), -4);
    due("of(0, -1)", x.of(0, -1), 10);
    due("edge(-1, 0)", x.edge(-1, 0), 9);
    due("lead(1, 9)", x.lead(1, 9), 1);
    due("status()", x.status(), 0);
    due("lead(1, 9)", x.lead(1, 9), -4);
    due("edge(-1, 0)", x.edge(-1, 0), 9);
    due("lead(1, 0)", x.lead(1, 0), 2);
    due("edge(-1, 0)", x.edge(-1, 0), 10);
  }

  private static void of() {
    LineMap x = mapOf(0, 0, 1, 0, 2, 0);
    addLine(x, 2, 0, 1);
    addLine(x);
    due("of(0, 0)", x.of(0, 0), 2);
    due("of(0, 1)", x.of(0, 1), 0);
    due("of(0, 2)", x.of(0, 2), 1);
    due("of(0, 3)", x.of(0, 3), -1);
    due("of(0, -1)", x.of(0, -1), 3);
    due("of(0, -2)", x.of(0, -2), -1);
    due("of(0, least)", x.of(0, LEAST), -1);
    due("of(0, most)", x.of(0, MOST), -1);
    due("of(1, -1)", x.of(1, -1), 0);
    due("of(1, 0)", x.of(1, 0), -1);
    due("of(2, -1)", x.of(2, -1), -1);
    due("of(-1, -1)", x.of(-1, -1), -1);
    due("of(-1, 0)", x.of(-1, 0), -1);
    due("of(least, 0)", x.of(LEAST, 0), -1);
    due("of(most, 0)", x.of(MOST, 0), -1);
  }

  private static void edge() {
    LineMap x = mapOf(0, 0, 2, 0, 4, 0, 2, 4);
    addLine(x, 3, 1, 2);
    due("edge(-1, 0)", x.edge(-1, 0), 2);
    due("edge(0, 0)", x.edge(0, 0), 1);
    due("edge(0, 1)", x.edge(0, 1), 2);
    due("edge(1, 0)", x.edge(1, 0), 1);
    due("edge(1, 1)", x.edge(1, 1), 3);
    // the same pair in another line, the other way, is the same edge; a new one comes ahead
    addLine(x, 2, 1, 0);
    due("edge(-1, 0)", x.edge(-1, 0), 3);
    due("edge(0, 0)", x.edge(0, 0), 0);
    due("edge(0, 1)", x.edge(0, 1), 1);
    due("edge(1, 1)", x.edge(1, 1), 2);
    due("edge(2, 1)", x.edge(2, 1), 3);
    due("edge(2, 2)", x.edge(2, 2), 2);
    for (int k : new int[] {-1, 3, LEAST, MOST}) due("edge(0, " + k + ")", x.edge(0, k), -1);
    for (int e : new int[] {-2, 3, LEAST, MOST}) due("edge(" + e + ", 0)", x.edge(e, 0), -1);
    due("edge(-1, 1)", x.edge(-1, 1), -1);
    due("edge(-1, 2)", x.edge(-1, 2), -1);
  }

  /** 207 of 500 is just 414 of 1000: no more along an axis. */
  private static void trueDirections() {
    int[][] steps = {
      {500, 0, 0}, {500, 206, 0}, {500, 207, 1}, {500, -206, 0}, {500, -207, 7}, {500, 500, 1},
      {0, 500, 2}, {206, 500, 2}, {207, 500, 1}, {-206, 500, 2}, {-207, 500, 3}, {-500, 500, 3},
      {-500, 0, 4}, {-500, 206, 4}, {-500, 207, 3}, {-500, -206, 4}, {-500, -207, 5}, {-500, -500, 5},
      {0, -500, 6}, {206, -500, 6}, {207, -500, 7}, {-206, -500, 6}, {-207, -500, 5}, {500, -500, 7},
      {1, 0, 0}, {1, 1, 1}, {0, 1, 2}, {-1, 1, 3}, {-1, 0, 4}, {-1, -1, 5}, {0, -1, 6}, {1, -1, 7},
    };
    for (int[] step : steps) {
      LineMap x = new LineMap();
      x.station(500, 500);
      x.station(500 + step[0], 500 + step[1]);
      addLine(x, 1, 0);
      due("edge(0, 2) of " + step[0] + ", " + step[1], x.edge(0, 2), step[2]);
    }
    // 413000 is below 414 * 998 = 413172, by little
    LineMap far = new LineMap();
    far.station(0, 0);
    far.station(998, 413);
    far.station(413, 998);
    far.station(997, 413);
    far.station(413, 997);
    addLine(far, 1, 0, 2);
    addLine(far, 3, 0, 4);
    for (int e = 0; e < 4; e++) due("edge(" + e + ", 2)", far.edge(e, 2), new int[] {0, 2, 1, 1}[e]);
  }

  private static void round() {
    LineMap x = new LineMap();
    x.station(500, 500);
    int[][] near = {{400, 400}, {500, 400}, {600, 500}, {400, 500}, {600, 600}, {500, 600}, {700, 700}, {600, 400}};
    for (int[] p : near) x.station(p[0], p[1]);
    addLine(x, 7, 0, 1);
    addLine(x, 2, 0, 3);
    addLine(x, 8, 0, 4);
    addLine(x, 5, 0, 6);
    int[] want = {3, 5, 7, 6, 4, 1, 2, 8};
    due("round(0, -1)", x.round(0, -1), 8);
    for (int i = 0; i < 8; i++) due("round(0, " + i + ")", x.round(0, i), want[i]);
    for (int i : new int[] {8, -2, LEAST, MOST}) due("round(0, " + i + ")", x.round(0, i), -1);
    due("round(7, -1)", x.round(7, -1), 1);
    due("round(7, 0)", x.round(7, 0), 0);
    for (int s : new int[] {-1, 9, LEAST, MOST}) {
      due("round(" + s + ", -1)", x.round(s, -1), -1);
      due("round(" + s + ", 0)", x.round(s, 0), -1);
    }
    // the least steps there are
    LineMap z = new LineMap();
    z.station(500, 500);
    for (int d = 7; d >= 0; d--) z.station(500 + DX[d], 500 + DY[d]);
    addLine(z, 1, 0, 2);
    addLine(z, 3, 0, 4);
    addLine(z, 5, 0, 6);
    addLine(z, 7, 0, 8);
    for (int i = 0; i < 8; i++) due("round(0, " + i + ")", z.round(0, i), 8 - i);
    // angles that differ by a millionth part
    LineMap y = new LineMap();
    y.station(0, 0);
    y.station(998, 999);
    y.station(999, 1000);
    y.station(997, 998);
    addLine(y, 1, 0, 2);
    addLine(y, 3, 0);
    due("round(0, 0)", y.round(0, 0), 2);
    due("round(0, 1)", y.round(0, 1), 1);
    due("round(0, 2)", y.round(0, 2), 3);
  }

  private static void grid() {
    LineMap x = mapOf(0, 0, 1, 0);
    draw(x, 0, 0, 1, 0);
    x.hold(0, true);
    for (int n : new int[] {1, 9, 0, -1, LEAST, MOST}) {
      due("grid(" + n + ", 5)", x.grid(n, 5), -1);
      due("grid(5, " + n + ")", x.grid(5, n), -1);
    }
    due("status()", x.status(), -1);
    due("count(2)", x.count(2), 2);
    due("count(3)", x.count(3), 1);
    due("grid(5, 5)", x.grid(5, 5), 0);
    due("count(2)", x.count(2), 0);
    due("count(3)", x.count(3), 0);
    due("place(0, 1, 1)", x.place(0, 1, 1), 0);
    due("grid(2, 8)", x.grid(2, 8), 0);
    due("point(0)", x.point(0), -1);
    due("count(4)", x.count(4), 2);
    due("count(5)", x.count(5), 8);
    due("place(0, 1, 7)", x.place(0, 1, 7), 0);
    due("point(0)", x.point(0), 15);
    due("place(0, 2, 7)", x.place(0, 2, 7), -1);
    due("grid(8, 2)", x.grid(8, 2), 0);
    due("place(0, 7, 1)", x.place(0, 7, 1), 0);
    due("point(0)", x.point(0), 15);
  }

  private static void span() {
    LineMap x = mapOf(0, 0, 4, 0);
    addLine(x, 0, 1);
    draw(x, 0, 0, 3, 0);
    due("span(4)", x.span(4), 1);
    due("why(0)", x.why(0), 4);
    due("span(3)", x.span(3), 4);
    due("why(0)", x.why(0), 0);
    for (int n : new int[] {0, 5, -1, LEAST, MOST}) due("span(" + n + ")", x.span(n), -1);
    due("status()", x.status(), -1);
    due("count(6)", x.count(6), 3);
    due("span(1)", x.span(1), 3);
    due("status()", x.status(), 0);
  }

  private static void terms() {
    LineMap x = mapOf(0, 0, 1, 0, 2, 0);
    addLine(x, 0, 1, 2);
    draw(x, 0, 0, 2, 0, 2, 3);
    due("cost(0)", x.cost(0), 2 * 10 + 5 * 1 + 2 * 3);
    due("terms(100, 0, 0)", x.terms(100, 0, 0), 0);
    due("cost(0)", x.cost(0), 200);
    due("terms(0, 100, 0)", x.terms(0, 100, 0), 0);
    due("cost(0)", x.cost(0), 500);
    due("terms(0, 0, 100)", x.terms(0, 0, 100), 0);
    due("cost(0)", x.cost(0), 200);
    due("terms(7, 20, 1)", x.terms(7, 20, 1), 0);
    for (int n : new int[] {-1, 101, LEAST, MOST}) {
      due("terms(" + n + ", 1, 1)", x.terms(n, 1, 1), -1);
      due("terms(1, " + n + ", 1)", x.terms(1, n, 1), -1);
      due("terms(1, 1, " + n + ")", x.terms(1, 1, n), -1);
    }
    due("status()", x.status(), -1);
    due("cost(0)", x.cost(0), 2 * 7 + 5 * 20 + 2 * 1);
  }

  private static void place() {
    LineMap x = mapOf(0, 0, 1, 0);
    due("place(0, 4, 4)", x.place(0, 4, 4), 0);
    due("point(0)", x.point(0), 24);
    for (int n : new int[] {-1, 5, LEAST, MOST}) {
      due("place(0, " + n + ", 0)", x.place(0, n, 0), -1);
      due("place(0, 0, " + n + ")", x.place(0, 0, n), -1);
      due("place(9, 0, " + n + ")", x.place(9, 0, n), -1);
    }
    for (int n : new int[] {-1, 2, LEAST, MOST}) due("place(" + n + ", 0, 0)", x.place(n, 0, 0), -2);
    due("point(0)", x.point(0), 24);
    due("place(1, 4, 4)", x.place(1, 4, 4), 0);
    due("place(0, 3, 1)", x.place(0, 3, 1), 0);
    due("point(0)", x.point(0), 8);
    x.hold(0, true);
    due("place(0, 0, 0)", x.place(0, 0, 0), -6);
    due("place(0, 3, 1)", x.place(0, 3, 1), -6);
    due("status()", x.status(), -6);
    due("place(0, 5, 0)", x.place(0, 5, 0), -1);
    due("point(0)", x.point(0), 8);
    x.hold(0, false);
    due("place(0, 0, 0)", x.place(0, 0, 0), 0);
    due("point(0)", x.point(0), 0);
  }

  private static void point() {
    LineMap x = mapOf(0, 0, 1, 0);
    due("point(0)", x.point(0), -1);
    x.grid(7, 3);
    x.place(1, 2, 2);
    due("point(0)", x.point(0), -1);
    due("point(1)", x.point(1), 16);
    for (int n : new int[] {-1, 2, LEAST, MOST}) due("point(" + n + ")", x.point(n), -1);
    due("status()", x.status(), 0);
  }

  private static void hold() {
    LineMap x = mapOf(0, 0, 1, 0);
    due("hold(0, true)", x.hold(0, true), -2);
    due("hold(0, false)", x.hold(0, false), -2);
    due("status()", x.status(), -2);
    x.place(0, 1, 1);
    due("hold(0, false)", x.hold(0, false), 0);
    due("hold(0, true)", x.hold(0, true), 0);
    due("hold(0, true)", x.hold(0, true), 0);
    due("count(3)", x.count(3), 1);
    due("point(0)", x.point(0), 6);
    for (int n : new int[] {-1, 2, LEAST, MOST}) due("hold(" + n + ", true)", x.hold(n, true), -2);
    due("hold(0, false)", x.hold(0, false), 0);
    due("count(3)", x.count(3), 0);
    due("point(0)", x.point(0), 6);
  }

  /** One drawing that goes through all the sorts, mended one by one. */
  private static void why() {
    LineMap x = mapOf(0, 0, 2, 0, 4, 0, 2, 2, 2, 4);
    addLine(x, 0, 1, 2);
    addLine(x, 1, 3, 4);
    for (int k : new int[] {-1, 3, LEAST, MOST}) due("why(" + k + ")", x.why(k), -1);
    dueAll("nothing placed", whyAll(x), 1, 0, -1);
    x.place(0, 0, 0);
    x.place(1, 2, 1);
    x.place(2, 4, 0);
    x.place(4, 2, 4);
    dueAll("3 not placed", whyAll(x), 1, 3, -1);
    x.place(3, 2, 4);
    dueAll("3 at 4", whyAll(x), 2, 3, 4);
    x.place(3, 2, 3);
    dueAll("0, 1 aslope", whyAll(x), 3, 0, -1);
    x.place(1, 2, 0);
    x.span(2);
    dueAll("3, 4 short", whyAll(x), 4, 3, -1);
    x.span(1);
    dueAll("allowed", whyAll(x), 0, -1, -1);
    x.place(4, 2, 1);
    dueAll("4 on 1, 3", whyAll(x), 5, 2, 4);
    x.place(3, 4, 2);
    x.place(4, 4, 4);
    dueAll("allowed aslant", whyAll(x), 0, -1, -1);
    x.place(0, 4, 3);
    x.place(1, 1, 0);
    x.place(2, 4, 0);
    dueAll("1, 3 aslope", whyAll(x), 3, 2, -1);
    due("status()", x.status(), 0);
  }

  /** The lower sort counts, wherever it lies. */
  private static void whyOrder() {
    LineMap x = mapOf(0, 0, 1, 0, 2, 0, 3, 0);
    addLine(x, 0, 1);
    addLine(x, 2, 3);
    x.span(2);
    draw(x, 0, 0, 1, 2, 2, 0);
    dueAll("1 ahead of 3", whyAll(x), 1, 3, -1);
    x.place(3, 2, 0);
    dueAll("2 ahead of 3", whyAll(x), 2, 2, 3);
    x.place(3, 3, 0);
    dueAll("3 ahead of 4", whyAll(x), 3, 0, -1);
    x.place(1, 1, 0);
    dueAll("4, the lower edge", whyAll(x), 4, 0, -1);
    x.place(1, 4, 0);
    dueAll("4 ahead of 5", whyAll(x), 4, 1, -1);
    x.span(1);
    dueAll("5, the lower station", whyAll(x), 5, 0, 2);
  }

  /** Of one sort the first pair. */
  private static void whyFirst() {
    LineMap x = mapOf(0, 0, 1, 0, 2, 0, 3, 0);
    draw(x, 1, 1, 0, 0, 0, 0, 1, 1);
    dueAll("0, 3 ahead of 1, 2", whyAll(x), 2, 0, 3);
    // edges 0: 0 1, 1: 2 3, 2: 4 5
    LineMap y = mapOf(0, 1, 4, 1, 1, 0, 1, 4, 2, 0, 2, 4);
    addLine(y, 0, 1);
    addLine(y, 3, 2);
    addLine(y, 4, 5);
    draw(y, 0, 1, 4, 1, 1, 0, 1, 4, 2, 0, 2, 4);
    dueAll("edge 0 with 1 ahead of 0 with 2", whyAll(y), 6, 0, 1);
    y.place(2, 0, 0);
    y.place(3, 4, 0);
    y.place(4, 2, 4);
    y.place(5, 2, 2);
    dueAll("nothing crosses", whyAll(y), 0, -1, -1);
    y.place(5, 2, 0);
    dueAll("5 on edge 1 ahead of crossings", whyAll(y), 5, 1, 5);
    // ends that touch an edge count as stations on it
    y.place(5, 2, 1);
    dueAll("5 on edge 0", whyAll(y), 5, 0, 5);
    // of several stations on edges first the edge, then the station tells
    LineMap z = mapOf(0, 0, 4, 0, 0, 2, 4, 2, 1, 0, 2, 0);
    addLine(z, 0, 1);
    addLine(z, 2, 3);
    draw(z, 0, 0, 4, 0, 0, 2, 4, 2, 1, 2, 2, 0);
    dueAll("5 on edge 0 ahead of 4 on edge 1", whyAll(z), 5, 0, 5);
    z.place(4, 3, 0);
    dueAll("4 ahead of 5 on edge 0", whyAll(z), 5, 0, 4);
    // a crossing between the points of the grid
    LineMap u = mapOf(0, 0, 3, 3, 0, 1, 1, 0);
    addLine(u, 0, 1);
    addLine(u, 2, 3);
    draw(u, 0, 0, 3, 3, 0, 1, 1, 0);
    dueAll("aslant across", whyAll(u), 6, 0, 1);
    u.place(2, 0, 4);
    u.place(3, 1, 3);
    dueAll("aslant, not so far", whyAll(u), 0, -1, -1);
    u.place(3, 2, 2);
    dueAll("aslant, as far as", whyAll(u), 5, 0, 3);
    u.place(3, 3, 1);
    dueAll("aslant, through", whyAll(u), 6, 0, 1);
    // edges with one end in common that lie on one another
    LineMap v = mapOf(0, 0, 2, 0, 3, 0);
    addLine(v, 1, 0);
    addLine(v, 2, 0);
    draw(v, 0, 0, 2, 0, 3, 0);
    dueAll("one edge on another", whyAll(v), 5, 1, 1);
  }

  private static void whyRing() {
    // hub 0, neighbours along x, y, back along x; and 4, as 1 along x, but farther
    LineMap x = mapOf(2, 2, 3, 2, 2, 3, 1, 2, 4, 2);
    addLine(x, 1, 0, 2);
    addLine(x, 3, 0);
    draw(x, 2, 2, 3, 2, 2, 3, 1, 2, 0, 0);
    dueAll("as in truth", whyAll(x), 0, -1, -1);
    draw(x, 2, 2, 2, 3, 1, 2, 3, 2);
    dueAll("a quarter on", whyAll(x), 0, -1, -1);
    draw(x, 2, 2, 2, 3, 3, 2, 1, 2);
    dueAll("the other way round", whyAll(x), 7, 0, -1);
    draw(x, 2, 2, 3, 3, 2, 3, 1, 3);
    dueAll("all on one side", whyAll(x), 0, -1, -1);
    // 1 and 4 have one true angle: 1 comes first
    addLine(x, 4, 0);
    draw(x, 2, 2, 3, 1, 2, 3, 1, 2, 3, 2);
    dueAll("1, 4, 2, 3", whyAll(x), 0, -1, -1);
    draw(x, 2, 2, 3, 2, 2, 3, 1, 2, 3, 1);
    dueAll("4, 1, 2, 3", whyAll(x), 7, 0, -1);
    // two neighbours have no order
    LineMap y = mapOf(2, 2, 3, 2, 2, 3);
    addLine(y, 1, 0, 2);
    draw(y, 2, 2, 2, 3, 3, 2);
    dueAll("two only", whyAll(y), 0, -1, -1);
    // two hubs are wrong: the lower is told
    LineMap z = mapOf(1, 1, 1, 0, 0, 1, 5, 1, 5, 0, 6, 1, 3, 1);
    addLine(z, 1, 0, 2);
    addLine(z, 4, 3, 5);
    addLine(z, 0, 6, 3);
    z.grid(7, 3);
    draw(z, 1, 1, 0, 1, 1, 0, 5, 1, 6, 1, 5, 0, 3, 1);
    dueAll("two hubs", whyAll(z), 7, 0, -1);
    z.place(1, 1, 0);
    z.place(2, 0, 1);
    dueAll("the other hub", whyAll(z), 7, 3, -1);
  }

  private static void cost() {
    LineMap x = mapOf(0, 0, 1, 0, 2, 0, 2, 1);
    addLine(x, 0, 1, 2, 3);
    for (int k : new int[] {-1, 4, LEAST, MOST}) due("cost(" + k + ")", x.cost(k), -1);
    for (int k = 0; k < 4; k++) due("cost(" + k + ")", x.cost(k), -6);
    due("status()", x.status(), 0);
    draw(x, 0, 0, 1, 0, 2, 0, 2, 1);
    dueAll("as in truth", costs(x), 23, 2, 3, 0);
    // 1 goes down aslant, 2 up again steeply: turns 1 and 3, bends 4 and 0, 0 -> 1 -> 7 -> 2
    draw(x, 0, 1, 2, 3, 3, 2, 3, 4);
    dueAll("drawn otherwise", costs(x), 10 * 5 + 5 + 3 * 2, 5, 5, 2);
    // another line on the same edges: its bends count, lengths and turns once
    addLine(x, 3, 2, 1);
    dueAll("two lines", costs(x), 10 * 8 + 5 + 3 * 2, 8, 5, 2);
    due("terms(0, 0, 0)", x.terms(0, 0, 0), 0);
    dueAll("without weights", costs(x), 0, 8, 5, 2);
    for (int k : new int[] {-1, 4}) due("cost(" + k + ")", x.cost(k), -1);
    // the turn of an edge is the lesser way round, from its lower station, however its line goes
    LineMap y = mapOf(1, 0, 0, 0);
    addLine(y, 1, 0);
    int[][] to = {{2, 1, 4}, {2, 2, 3}, {1, 2, 2}, {0, 2, 1}, {0, 1, 0}, {0, 0, 1}, {1, 0, 2}, {2, 0, 3}};
    for (int[] t : to) {
      draw(y, 1, 1, t[0], t[1]);
      due("cost(3) of 1 at " + t[0] + ", " + t[1], y.cost(3), t[2]);
    }
    // a station without edges costs nothing
    LineMap z = mapOf(1, 0, 0, 0);
    addLine(z, 1);
    draw(z, 1, 1, 4, 4);
    dueAll("no edges", costs(z), 0, 0, 0, 0);
  }

  private static int[] costs(LineMap x) {
    return new int[] {x.cost(0), x.cost(1), x.cost(2), x.cost(3)};
  }

  private static void best() {
    LineMap x = mapOf(0, 0, 1, 0);
    addLine(x, 0, 1);
    due("best()", x.best(), 1);
    dueAll("points", points(x), 0, 1);
    LineMap y = mapOf(1, 0, 0, 0);
    addLine(y, 0, 1);
    due("best()", y.best(), 1);
    dueAll("points", points(y), 1, 0);
    LineMap z = mapOf(0, 1, 1, 0);
    addLine(z, 0, 1);
    z.span(3);
    due("best()", z.best(), 3);
    dueAll("points", points(z), 15, 3);
    due("why(0)", z.why(0), 0);
    due("cost(0)", z.cost(0), 3);
    // a cross, that needs all of a small grid
    LineMap u = mapOf(1, 1, 1, 0, 2, 1, 1, 2, 0, 1);
    addLine(u, 1, 0, 3);
    addLine(u, 2, 0, 4);
    u.grid(3, 3);
    due("best()", u.best(), 4);
    dueAll("points", points(u), 4, 1, 5, 7, 3);
    // stations without lines take the lowest points that are free of stations and edges
    LineMap v = mapOf(0, 0, 4, 0, 2, 2, 3, 2);
    addLine(v, 0, 1);
    v.span(2);
    due("best()", v.best(), 2);
    dueAll("points", points(v), 0, 2, 3, 4);
    due("station(900, 900)", v.station(900, 900), 4);
    due("best()", v.best(), 2);
    dueAll("points", points(v), 0, 2, 3, 4, 5);
  }

  private static void bestHeld() {
    LineMap x = mapOf(0, 0, 1, 0, 2, 0);
    addLine(x, 0, 1, 2);
    x.place(1, 3, 3);
    x.hold(1, true);
    due("best()", x.best(), 2);
    dueAll("points", points(x), 17, 18, 19);
    due("count(3)", x.count(3), 1);
    x.hold(0, true);
    x.place(2, 0, 0);
    due("best()", x.best(), 2);
    dueAll("points", points(x), 17, 18, 19);
    // 1 held at the right border: 2 has to bend away
    x.grid(4, 4);
    x.place(1, 3, 0);
    x.hold(1, true);
    due("best()", x.best(), 2 * 10 + 2 + 2 * 3);
    dueAll("points", points(x), 2, 3, 7);
    // all held, and allowed as they are
    for (int s = 0; s < 3; s++) x.hold(s, true);
    due("best()", x.best(), 2 * 10 + 2 + 2 * 3);
    // all held, but crooked
    x.hold(2, false);
    x.place(2, 1, 1);
    x.hold(2, true);
    due("best()", x.best(), -6);
    dueAll("points", points(x), 2, 3, 5);
  }

  private static void bestNone() {
    LineMap x = mapOf(0, 0, 1, 0, 2, 0, 3, 0, 4, 0);
    x.grid(2, 2);
    x.place(3, 1, 1);
    due("best()", x.best(), -6);
    due("status()", x.status(), -6);
    dueAll("points", points(x), -1, -1, -1, 3, -1);
    LineMap y = mapOf(0, 0, 1, 0);
    addLine(y, 0, 1);
    y.grid(2, 2);
    y.span(2);
    draw(y, 1, 1, 1, 1);
    due("best()", y.best(), -6);
    dueAll("points", points(y), 3, 3);
    // all five joined with one another: two edges always cross
    LineMap z = mapOf(0, 0, 9, 0, 9, 9, 0, 9, 5, 4);
    addLine(z, 0, 1, 2, 3, 4);
    addLine(z, 1, 3, 0, 2, 4);
    addLine(z, 3, 0, 4, 1);
    due("edge(-1, 0)", z.edge(-1, 0), 10);
    due("best()", z.best(), -6);
    dueAll("points", points(z), -1, -1, -1, -1, -1);
  }

  private static void bestTooGreat() {
    LineMap x = mapOf(0, 0, 1, 0, 2, 0, 3, 0, 4, 0);
    due("grid(8, 4)", x.grid(8, 4), 0);
    due("best()", x.best(), -5);
    due("status()", x.status(), -5);
    due("grid(8, 3)", x.grid(8, 3), 0);
    due("best()", x.best(), 0);
    due("grid(2, 8)", x.grid(2, 8), 0);
    due("best()", x.best(), 0);
    due("grid(5, 5)", x.grid(5, 5), 0);
    due("best()", x.best(), 0);
    dueAll("points", points(x), 0, 1, 2, 3, 4);
    due("station(500, 0)", x.station(500, 0), 5);
    due("best()", x.best(), -5);
    // too great comes ahead of none
    due("grid(2, 2)", x.grid(2, 2), 0);
    due("best()", x.best(), -5);
  }

  private static void bestTies() {
    LineMap x = mapOf(4, 4, 0, 0, 2, 0);
    addLine(x, 0, 1, 2);
    x.terms(0, 0, 0);
    due("best()", x.best(), 0);
    dueAll("points", points(x), 0, 1, 2);
    // without a weight for lengths the least points come first, however far
    x.terms(0, 0, 5);
    due("best()", x.best(), 0);
    dueAll("points", points(x), 6, 0, 1);
    x.span(3);
    due("best()", x.best(), 0);
    dueAll("points", points(x), 18, 0, 3);
  }

  private static void bestWeighs() {
    // a right angle in truth: bends or turns, as the terms have it
    LineMap x = mapOf(0, 0, 4, 0, 4, 4);
    addLine(x, 0, 1, 2);
    x.terms(1, 1, 10);
    due("best()", x.best(), 4);
    dueAll("points", points(x), 0, 1, 6);
    x.terms(10, 1, 1);
    due("best()", x.best(), 4);
    dueAll("points", points(x), 0, 1, 2);
    x.terms(3, 1, 1);
    due("cost(1)", x.cost(1), 0);
    due("cost(3)", x.cost(3), 2);
  }

  /** Answers that a search through all drawings gave. */
  private static void bestKnotty() {
    LineMap x = mapOf(4, 3, 4, 0, 2, 1, 4, 2, 0, 0);
    addLine(x, 4, 1, 3, 0);
    addLine(x, 2, 0, 1, 4);
    due("best()", x.best(), 96);
    dueAll("points", points(x), 23, 8, 17, 20, 3);
    LineMap y = mapOf(3, 1, 2, 0, 0, 2, 4, 2, 1, 0);
    addLine(y, 2, 4);
    addLine(y, 2, 3, 4, 1);
    due("best()", y.best(), 33);
    dueAll("points", points(y), 0, 1, 10, 11, 6);
    LineMap z = mapOf(3, 4, 0, 2, 1, 2, 3, 1, 2, 3);
    addLine(z, 2, 4, 0);
    addLine(z, 3, 4, 0, 2);
    due("best()", z.best(), 63);
    dueAll("points", points(z), 11, 0, 5, 1, 6);
    LineMap u = mapOf(3, 0, 2, 2, 4, 1, 1, 3, 2, 0);
    addLine(u, 1, 0, 4, 3);
    addLine(u, 4, 2, 0);
    due("best()", u.best(), 80);
    dueAll("points", points(u), 4, 8, 19, 0, 1);
    LineMap v = mapOf(1, 4, 4, 3, 1, 0, 0, 0, 2, 2);
    addLine(v, 4, 0, 1, 3);
    addLine(v, 4, 2, 3, 0);
    due("best()", v.best(), -6);
  }

  private static void better() {
    LineMap x = mapOf(0, 0, 1, 0, 2, 0);
    addLine(x, 0, 1, 2);
    due("better()", x.better(), -6);
    due("status()", x.status(), -6);
    draw(x, 0, 0, 1, 1, 2, 0);
    due("better()", x.better(), 1);
    due("status()", x.status(), 0);
    dueAll("points", points(x), 0, 1, 2);
    due("better()", x.better(), 0);
    // far apart: each move that makes the cost least is a change
    draw(x, 0, 4, 2, 4, 4, 4);
    due("better()", x.better(), 2);
    dueAll("points", points(x), 21, 22, 23);
    due("cost(0)", x.cost(0), 2);
    draw(x, 0, 0, 0, 1, 0, 0);
    due("better()", x.better(), -6);
    dueAll("points", points(x), 0, 5, 0);
    // a larger grid, where best() is refused
    x.grid(8, 8);
    draw(x, 0, 7, 7, 7, 7, 0);
    due("best()", x.best(), -5);
    // 1 goes aslant between both (13, and the lowest point of those alike), then 0 comes near
    due("cost(0)", x.cost(0), 2 * 10 + 14 + 2 * 3);
    due("better()", x.better(), 2);
    dueAll("points", points(x), 21, 14, 7);
    due("cost(0)", x.cost(0), 8);
  }

  private static void betterTies() {
    // both ends can come one nearer: the lower station goes
    LineMap x = mapOf(0, 0, 1, 0);
    addLine(x, 0, 1);
    draw(x, 1, 0, 3, 0);
    due("better()", x.better(), 1);
    dueAll("points", points(x), 2, 3);
    // 1 goes aslant to 0, or 0 to 1: at one cost along y and along x alike
    x.terms(0, 1, 0);
    draw(x, 2, 2, 4, 4);
    due("better()", x.better(), 1);
    dueAll("points", points(x), 18, 24);
    // a way that does not cost is no change
    x.terms(0, 0, 0);
    draw(x, 0, 0, 4, 4);
    due("better()", x.better(), 0);
  }

  private static void betterHeld() {
    LineMap x = mapOf(0, 0, 1, 0);
    addLine(x, 0, 1);
    draw(x, 1, 0, 3, 0);
    x.hold(0, true);
    due("better()", x.better(), 1);
    dueAll("points", points(x), 1, 2);
    x.place(1, 4, 0);
    x.hold(1, true);
    due("better()", x.better(), 0);
    dueAll("points", points(x), 1, 4);
    due("count(3)", x.count(3), 2);
  }

  /** Points that would make the cost less, but are not allowed. */
  private static void betterShut() {
    // 1 would go to 0, 1 if 0 were not there
    LineMap x = mapOf(9, 9, 0, 0, 1, 0);
    addLine(x, 1, 2);
    draw(x, 4, 4, 0, 0, 1, 1);
    due("better()", x.better(), 1);
    dueAll("points", points(x), 24, 5, 6);
    draw(x, 0, 1, 0, 0, 1, 1);
    due("better()", x.better(), 1);
    dueAll("points", points(x), 5, 0, 1);
    // 3 should lie along x from 2, but there is the edge 0, 1, first on its point, then across
    LineMap y = mapOf(2, 0, 2, 2, 1, 1, 3, 1);
    addLine(y, 0, 1);
    addLine(y, 2, 3);
    draw(y, 2, 0, 2, 2, 1, 1, 1, 2);
    for (int s = 0; s < 3; s++) y.hold(s, true);
    due("better()", y.better(), 0);
    y.hold(2, false);
    due("better()", y.better(), 1);
    dueAll("points", points(y), 2, 12, 10, 11);
    // a station without lines on the way
    LineMap z = mapOf(9, 9, 1, 1, 3, 1);
    addLine(z, 1, 2);
    z.grid(4, 2);
    draw(z, 1, 1, 0, 1, 0, 0);
    z.hold(1, true);
    due("better()", z.better(), 1);
    dueAll("points", points(z), 5, 4, 1);
    // an edge aslant across the way: 3 comes no nearer to direction 1 than 7
    LineMap u = mapOf(2, 1, 1, 2, 1, 1, 2, 2);
    addLine(u, 0, 1);
    addLine(u, 2, 3);
    draw(u, 2, 1, 1, 2, 1, 1, 1, 0);
    for (int s = 0; s < 3; s++) u.hold(s, true);
    due("better()", u.better(), 1);
    dueAll("points", points(u), 7, 11, 6, 2);
    // the order round the hub 0, of which 2 is a neighbour: it can't pass 3
    LineMap v = mapOf(2, 2, 3, 2, 2, 3, 1, 2);
    addLine(v, 1, 0, 3);
    addLine(v, 2, 0);
    draw(v, 2, 2, 2, 1, 3, 1, 3, 2);
    due("why(0)", v.why(0), 0);
    for (int s : new int[] {0, 1, 3}) v.hold(s, true);
    due("better()", v.better(), 0);
    // nor can the hub itself go where its neighbours come in another order
    v.grid(3, 3);
    draw(v, 1, 1, 2, 1, 1, 2, 0, 1);
    due("better()", v.better(), 0);
  }

  private static void name() {
    LineMap x = mapOf(0, 0, 1, 0);
    due("name(0, 12)", x.name(0, 12), 0);
    due("name(0, 0)", x.name(0, 0), 12);
    due("name(0, 5)", x.name(0, 5), 0);
    for (int n : new int[] {-1, 13, LEAST, MOST}) {
      due("name(0, " + n + ")", x.name(0, n), -1);
      due("name(7, " + n + ")", x.name(7, n), -1);
    }
    for (int s : new int[] {-1, 2, LEAST, MOST}) due("name(" + s + ", 5)", x.name(s, 5), -2);
    due("status()", x.status(), -2);
    due("name(0, 5)", x.name(0, 5), 5);
    due("name(1, 5)", x.name(1, 5), 0);
  }

  private static void put() {
    LineMap x = mapOf(0, 0, 1, 0, 2, 0);
    addLine(x, 0, 1);
    due("put()", x.put(), -6);
    due("status()", x.status(), -6);
    draw(x, 0, 0, 1, 0, 3, 3);
    due("put()", x.put(), 0);
    due("status()", x.status(), 0);
    x.name(0, 2);
    due("put()", x.put(), 1);
    x.name(1, 12);
    x.name(2, 12);
    due("put()", x.put(), 3);
    x.place(2, 0, 0);
    due("put()", x.put(), -6);
  }

  private static void named() {
    LineMap x = mapOf(0, 0, 1, 0, 2, 0);
    addLine(x, 0, 1);
    x.name(0, 2);
    x.name(1, 2);
    due("named(0, 0) ahead of put()", x.named(0, 0), -1);
    due("named(0, 1) ahead of put()", x.named(0, 1), -1);
    draw(x, 0, 0, 1, 0, 3, 3);
    due("put()", x.put(), 2);
    due("named(0, 0)", x.named(0, 0), 1);
    due("named(1, 0)", x.named(1, 0), 0);
    due("named(2, 0) without a name", x.named(2, 0), -1);
    due("named(2, 1) without a name", x.named(2, 1), -1);
    for (int n : new int[] {-1, 3, LEAST, MOST}) due("named(" + n + ", 0)", x.named(n, 0), -1);
    for (int n : new int[] {-1, 2, LEAST, MOST}) due("named(0, " + n + ")", x.named(0, n), -1);
    // the latest put() is kept, whatever comes
    x.name(0, 0);
    x.place(1, 0, 1);
    due("named(0, 0)", x.named(0, 0), 1);
    due("named(1, 0)", x.named(1, 0), 0);
    due("station(300, 0)", x.station(300, 0), 3);
    due("put() not allowed", x.put(), -6);
    due("named(0, 0)", x.named(0, 0), 1);
    due("named(3, 0)", x.named(3, 0), -1);
    x.grid(4, 4);
    due("named(0, 0)", x.named(0, 0), 1);
    draw(x, 0, 0, 0, 1, 3, 3, 2, 2);
    due("put()", x.put(), 1);
    due("named(0, 0)", x.named(0, 0), -1);
    due("named(1, 0)", x.named(1, 0), 0);
  }

  private static final int[] DX = {1, 1, 0, -1, -1, -1, 0, 1};
  private static final int[] DY = {0, 1, 1, 1, 0, -1, -1, -1};

  /** Station 0 amid neighbours 1 .. n in directions 0 .. n - 1. */
  private static LineMap star(int n) {
    LineMap x = new LineMap();
    x.station(500, 500);
    for (int d = 0; d < n; d++) x.station(500 + 100 * DX[d], 500 + 100 * DY[d]);
    for (int s = 1; s <= n; s += 2) {
      if (s < n) addLine(x, s, 0, s + 1); else addLine(x, s, 0);
    }
    x.grid(3, 3);
    x.place(0, 1, 1);
    for (int d = 0; d < n; d++) x.place(d + 1, 1 + DX[d], 1 + DY[d]);
    due("why(0) of a star", x.why(0), 0);
    return x;
  }

  private static void namedPlaces() {
    for (int n = 0; n < 8; n++) {
      LineMap x = star(n);
      x.name(0, 1);
      due("put() in a star of " + n, x.put(), 1);
      due("named(0, 0) in a star of " + n, x.named(0, 0), n);
      due("named(0, 1) in a star of " + n, x.named(0, 1), -1);
    }
    // where the cells of each place begin and end: a station on a place shuts it
    int[][] tight = {{4, 1}, {3, 0}, {12, 1}};
    for (int[] t : tight) {
      LineMap x = mapOf(0, 0, 1, 0);
      draw(x, 1, 1, 2, 1);
      x.name(0, t[0]);
      due("put() of " + t[0] + " signs", x.put(), 1);
      due("named(0, 0) of " + t[0] + " signs", x.named(0, 0), t[1]);
    }
    // an upright edge 4 cells off shuts 0 and 1; at place 2, 8 signs end 3 cells off, 9 signs 4 cells off
    LineMap z = mapOf(1, 1, 2, 0, 2, 4, 3, 1);
    addLine(z, 1, 2);
    draw(z, 1, 1, 2, 0, 2, 4, 3, 1);
    z.name(0, 5);
    due("put()", z.put(), 1);
    due("named(0, 0)", z.named(0, 0), 2);
    z.name(0, 8);
    due("put()", z.put(), 1);
    due("named(0, 0)", z.named(0, 0), 2);
    z.name(0, 9);
    due("put()", z.put(), 1);
    due("named(0, 0) of 4 x - 4 to 4 x + 4", z.named(0, 0), 3);
    // names outside the grid are no matter
    LineMap y = mapOf(0, 0);
    y.grid(2, 2);
    y.place(0, 1, 1);
    y.name(0, 12);
    due("put()", y.put(), 1);
    due("named(0, 0)", y.named(0, 0), 0);
  }

  private static void namedHindered() {
    LineMap x = star(8);
    x.name(0, 1);
    due("put()", x.put(), 0);
    due("named(0, 0)", x.named(0, 0), -1);
    due("named(0, 1) by an edge", x.named(0, 1), 100);
    x.name(0, 3);
    due("put()", x.put(), 0);
    due("named(0, 1) by an edge", x.named(0, 1), 100);
    x.name(0, 4);
    due("put()", x.put(), 0);
    due("named(0, 1) by a station ahead of an edge", x.named(0, 1), 1);
    // the name of 0 at place 4 lies where that of 1 has its place 0
    LineMap y = mapOf(3, 2, 2, 2, 3, 3, 1, 3, 1, 2, 1, 1, 3, 1, 4, 2, 4, 3);
    addLine(y, 2, 1, 5);
    addLine(y, 3, 1, 6);
    addLine(y, 4, 1);
    addLine(y, 7, 0, 8);
    draw(y, 2, 1, 1, 1, 2, 2, 0, 2, 0, 1, 0, 0, 2, 0, 3, 1, 3, 2);
    due("why(0)", y.why(0), 0);
    y.name(0, 3);
    y.name(1, 3);
    due("put()", y.put(), 1);
    due("named(0, 0)", y.named(0, 0), 4);
    due("named(0, 1)", y.named(0, 1), -1);
    due("named(1, 0)", y.named(1, 0), -1);
    due("named(1, 1) by a name", y.named(1, 1), 200);
    // without the name in its way it is put, and not hindered any more
    y.name(0, 0);
    due("put()", y.put(), 1);
    due("named(1, 0)", y.named(1, 0), 0);
    due("named(1, 1)", y.named(1, 1), -1);
    // the same with all numbers one higher: 0 has no lines
    LineMap z = mapOf(9, 9, 3, 2, 2, 2, 3, 3, 1, 3, 1, 2, 1, 1, 3, 1, 4, 2, 4, 3);
    addLine(z, 3, 2, 6);
    addLine(z, 4, 2, 7);
    addLine(z, 5, 2);
    addLine(z, 8, 1, 9);
    draw(z, 4, 4, 2, 1, 1, 1, 2, 2, 0, 2, 0, 1, 0, 0, 2, 0, 3, 1, 3, 2);
    z.name(1, 3);
    z.name(2, 3);
    due("put()", z.put(), 1);
    due("named(2, 1) by the name of 1", z.named(2, 1), 201);
    z.name(1, 0);
    z.name(2, 4);
    due("put()", z.put(), 0);
    due("named(2, 1) by station 1", z.named(2, 1), 1);
    // a star whose numbers go the other way round: direction 0 leads to 8 by edge 7
    LineMap u = new LineMap();
    u.station(500, 500);
    for (int d = 7; d >= 0; d--) u.station(500 + 100 * DX[d], 500 + 100 * DY[d]);
    for (int s = 1; s < 8; s += 2) addLine(u, s, 0, s + 1);
    u.grid(3, 3);
    u.place(0, 1, 1);
    for (int d = 7; d >= 0; d--) u.place(8 - d, 1 + DX[d], 1 + DY[d]);
    u.name(0, 2);
    due("put()", u.put(), 0);
    due("named(0, 1) by edge 7", u.named(0, 1), 107);
    u.name(0, 12);
    due("put()", u.put(), 0);
    due("named(0, 1) by station 8", u.named(0, 1), 8);
  }

  private static void image() {
    LineMap x = mapOf(0, 0, 1, 0);
    for (int k : new int[] {-1, 3, LEAST, MOST}) due("image(" + k + ")", x.image(k), -1);
    due("status()", x.status(), -1);
    due("image(0)", x.image(0), 0);
    draw(x, 1, 2, 3, 4);
    x.hold(1, true);
    due("image(1)", x.image(1), 0);
    x.grid(3, 2);
    draw(x, 2, 1);
    due("image(2)", x.image(2), 0);
    due("back(1)", x.back(1), 0);
    dueAll("points", points(x), 11, 23);
    due("count(3)", x.count(3), 1);
    due("count(4)", x.count(4), 5);
    due("place(1, 0, 0)", x.place(1, 0, 0), -6);
    due("back(0)", x.back(0), 0);
    dueAll("points", points(x), -1, -1);
    due("count(3)", x.count(3), 0);
    due("back(2)", x.back(2), 0);
    dueAll("points", points(x), 5, -1);
    due("count(4)", x.count(4), 3);
    due("count(5)", x.count(5), 2);
    // an image can be kept anew
    x.place(1, 0, 0);
    due("image(1)", x.image(1), 0);
    x.grid(8, 8);
    due("back(1)", x.back(1), 0);
    dueAll("points", points(x), 5, 0);
  }

  private static void back() {
    LineMap x = mapOf(0, 0, 1, 0);
    for (int k : new int[] {-1, 3, LEAST, MOST}) due("back(" + k + ")", x.back(k), -1);
    for (int k = 0; k < 3; k++) due("back(" + k + ")", x.back(k), -6);
    due("status()", x.status(), -6);
    draw(x, 1, 1, 2, 2);
    x.hold(0, true);
    x.image(0);
    due("back(1)", x.back(1), -6);
    // what is no part of an image stays: stations, lines, span, terms, names
    due("station(500, 500)", x.station(500, 500), 2);
    addLine(x, 0, 2);
    x.span(2);
    x.name(0, 3);
    x.place(2, 4, 4);
    x.hold(2, true);
    x.hold(0, false);
    x.place(0, 3, 3);
    due("back(0)", x.back(0), 0);
    due("status()", x.status(), 0);
    dueAll("points", points(x), 6, 12, -1);
    due("count(3)", x.count(3), 1);
    due("place(0, 0, 0)", x.place(0, 0, 0), -6);
    due("hold(2, true)", x.hold(2, true), -2);
    due("count(0)", x.count(0), 3);
    due("count(1)", x.count(1), 1);
    due("count(6)", x.count(6), 2);
    due("name(0, 0)", x.name(0, 0), 3);
    // going back does not use the image up, nor do later changes reach it
    x.place(1, 0, 0);
    due("back(0)", x.back(0), 0);
    dueAll("points", points(x), 6, 12, -1);
  }

  private static void count() {
    LineMap x = mapOf(0, 0, 1, 0, 2, 0);
    addLine(x, 0, 1);
    addLine(x);
    x.grid(6, 7);
    x.span(4);
    x.place(0, 5, 6);
    x.place(2, 0, 0);
    x.hold(2, true);
    int[] want = {3, 2, 2, 1, 6, 7, 4};
    for (int k = 0; k < want.length; k++) due("count(" + k + ")", x.count(k), want[k]);
    for (int k : new int[] {-1, 7, LEAST, MOST}) due("count(" + k + ")", x.count(k), -1);
  }

  private static void status() {
    LineMap x = new LineMap();
    due("status()", x.status(), 0);
    after(x, x.station(-1, 0), -1);
    after(x, x.station(0, 0), 0);
    after(x, x.station(0, 0), -4);
    after(x, x.line(), 0);
    after(x, x.lead(1, 0), -2);
    after(x, x.lead(0, 0) - 1, 0);
    after(x, x.lead(0, 0), -4);
    after(x, x.grid(1, 1), -1);
    after(x, x.grid(5, 5), 0);
    after(x, x.span(9), -1);
    after(x, x.span(1) - 1, 0);
    after(x, x.terms(-1, 0, 0), -1);
    after(x, x.terms(1, 1, 1), 0);
    after(x, x.hold(0, true), -2);
    after(x, x.better(), -6);
    after(x, x.put(), -6);
    after(x, x.place(0, 0, 0), 0);
    after(x, x.hold(0, true), 0);
    after(x, x.place(0, 0, 0), -6);
    after(x, x.better(), 0);
    after(x, x.name(0, -1), -1);
    after(x, x.name(0, 1), 0);
    after(x, x.name(1, 1), -2);
    after(x, x.put() - 1, 0);
    after(x, x.image(3), -1);
    after(x, x.image(0), 0);
    after(x, x.back(1), -6);
    after(x, x.back(0), 0);
    after(x, x.grid(8, 8), 0);
    after(x, x.best(), -5);
    // calls that only look leave it, refused or not
    x.of(9, 9);
    x.edge(9, 9);
    x.round(9, 9);
    x.point(9);
    x.why(9);
    x.why(0);
    x.cost(9);
    x.cost(0);
    x.named(9, 9);
    x.count(9);
    due("status() after looking", x.status(), -5);
    after(x, x.grid(2, 2), 0);
    after(x, x.best(), 0);
    due("status()", x.status(), 0);
  }

  private static void after(LineMap x, int got, int want) {
    due("a call", got, want);
    due("status()", x.status(), want);
  }
}

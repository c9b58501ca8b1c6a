import java.util.ArrayList;
import java.util.List;
import java.util.function.Supplier;
import java.util.function.ToIntFunction;

/**
 * Each call that the document refuses: by what, by the first of several reasons, what status() tells
 * of it, and that all stays as it was. For the last two objects are made alike, the refused call goes
 * to one of them alone, and both must answer alike from then on.
 */
public final class LineMapRefusals {
  private static final int LEAST = Integer.MIN_VALUE;
  private static final int MOST = Integer.MAX_VALUE;
  private static final int NONE = -1;

  private static int wrong = 0;
  private static int promise = 0;

  private static void due(String call, long got, long want) {
    if (got != want) {
      wrong++;
      System.out.println("promise " + promise + ": " + call + " answered " + got + ", due is " + want);
    }
  }

  public static void main(String[] args) {
    promise = 2; station();
    promise = 3; line();
    promise = 4; lead();
    promise = 8; grid();
    promise = 9; span();
    promise = 10; terms();
    promise = 11; place();
    promise = 13; hold();
    promise = 16; best();
    promise = 17; better();
    promise = 18; name();
    promise = 19; put();
    promise = 21; image();
    promise = 22; back();
    promise = 24; aheadOfAny(); looking(); accepted();
    System.out.println(wrong == 0 ? "all refusals are as due" : wrong + " answers are not as due");
    if (wrong != 0) System.exit(1);
  }

  /** Numbers that lie outside: next to the bounds, as far as can be, and alike but for higher bits. */
  private static int[] outside(int low, int high) {
    return new int[] {LEAST, low - 65536, low - 1, high + 1, low + 65536, MOST};
  }

  private static void addLine(LineMap x, int... stations) {
    int l = x.line();
    for (int s : stations) x.lead(l, s);
  }

  // objects to refuse calls on

  /** An allowed drawing with names that were put, one station held, two images, odd terms. */
  private static LineMap rich() {
    LineMap x = new LineMap();
    x.station(100, 100);
    x.station(300, 100);
    x.station(500, 100);
    x.station(300, 300);
    addLine(x, 0, 1, 2);
    addLine(x, 3, 1);
    addLine(x);
    x.grid(6, 4);
    x.terms(7, 2, 5);
    x.place(0, 0, 0);
    x.place(1, 2, 0);
    x.image(2);
    x.place(2, 4, 1);
    x.place(2, 5, 0);
    x.place(3, 2, 3);
    x.hold(1, true);
    x.image(0);
    x.name(0, 3);
    x.name(1, 5);
    x.put();
    x.name(1, 4);
    return x;
  }

  /** As rich, but 3 lies at 2's point: not allowed any more. */
  private static LineMap faulty() {
    LineMap x = rich();
    x.place(3, 5, 0);
    return x;
  }

  /** As rich, with a station that has no point. */
  private static LineMap partly() {
    LineMap x = rich();
    x.station(900, 900);
    return x;
  }

  /** All stations and all lines that there can be. */
  private static LineMap full() {
    LineMap x = new LineMap();
    for (int s = 0; s < 10; s++) x.station(100 * s, 50 * s);
    for (int l = 0; l < 5; l++) addLine(x);
    addLine(x, 0, 1, 2, 3, 4, 5, 6, 7, 8, 9);
    x.place(3, 1, 1);
    return x;
  }

  /** Six stations: one more than best() takes. */
  private static LineMap six() {
    LineMap x = new LineMap();
    for (int s = 0; s < 6; s++) x.station(100 * s, 0);
    addLine(x, 0, 1);
    x.place(0, 3, 3);
    x.hold(0, true);
    x.place(1, 3, 3);
    return x;
  }

  /** A grid of 28 points: the least that best() does not take. */
  private static LineMap large() {
    LineMap x = new LineMap();
    x.station(0, 0);
    x.station(100, 0);
    addLine(x, 0, 1);
    x.grid(7, 4);
    x.place(0, 6, 3);
    x.hold(0, true);
    return x;
  }

  /** A span for which the grid has no room. */
  private static LineMap narrow() {
    LineMap x = new LineMap();
    x.station(0, 0);
    x.station(100, 0);
    x.station(200, 0);
    addLine(x, 0, 1);
    x.grid(3, 3);
    x.span(3);
    x.place(1, 2, 2);
    x.hold(1, true);
    x.place(2, 2, 2);
    return x;
  }

  // what can be known of an object

  /** All that can be seen without a change. */
  private static List<Integer> look(LineMap x) {
    List<Integer> all = new ArrayList<>();
    for (int k = 0; k < 7; k++) all.add(x.count(k));
    for (int l = 0; l < x.count(1); l++) {
      for (int i = -1; i < x.of(l, -1); i++) all.add(x.of(l, i));
    }
    for (int e = 0; e < x.edge(-1, 0); e++) {
      for (int k = 0; k < 3; k++) all.add(x.edge(e, k));
    }
    for (int s = 0; s < x.count(0); s++) {
      for (int i = -1; i < x.round(s, -1); i++) all.add(x.round(s, i));
    }
    lookAtDrawing(x, all);
    return all;
  }

  private static void lookAtDrawing(LineMap x, List<Integer> all) {
    for (int s = 0; s < x.count(0); s++) {
      all.add(x.point(s));
      all.add(x.named(s, 0));
      all.add(x.named(s, 1));
    }
    for (int k = 0; k < 3; k++) all.add(x.why(k));
    for (int k = 0; k < 4; k++) all.add(x.cost(k));
    for (int k = 2; k < 6; k++) all.add(x.count(k));
  }

  /** What comes to light by going on: who is held, names, terms, images, and what there is room for. */
  private static List<Integer> goOn(LineMap x) {
    List<Integer> all = new ArrayList<>();
    for (int s = 0; s < x.count(0); s++) {
      if (x.point(s) != NONE) all.add(x.place(s, x.point(s) % x.count(4), x.point(s) / x.count(4)));
      all.add(x.name(s, 2));
    }
    all.add(x.better());
    all.add(x.put());
    all.add(x.best());
    lookAtDrawing(x, all);
    for (int k = 0; k < 3; k++) {
      all.add(x.back(k));
      lookAtDrawing(x, all);
    }
    all.add(x.station(1000, 1));
    all.add(x.line());
    all.add(x.lead(0, 0));
    all.add(x.lead(1, 0));
    all.add(x.lead(2, 1));
    all.add(x.span(1));
    all.add(x.edge(-1, 0));
    return all;
  }

  private static void same(String what, List<Integer> got, List<Integer> want) {
    due(what + ": how many", got.size(), want.size());
    for (int i = 0; i < Math.min(got.size(), want.size()); i++) due(what + " [" + i + "]", got.get(i), want.get(i));
  }

  private static void refused(String call, Supplier<LineMap> made, ToIntFunction<LineMap> asked, int reason) {
    LineMap x = made.get();
    LineMap twin = made.get();
    due(call, asked.applyAsInt(x), reason);
    due(call + ", then status()", x.status(), reason);
    same(call + ", then what is seen", look(x), look(twin));
    due(call + ", then status() after looking", x.status(), reason);
    same(call + ", then going on", goOn(x), goOn(twin));
  }

  // the calls

  private static void station() {
    for (int n : outside(0, 1000)) {
      refused("station(" + n + ", 1)", LineMapRefusals::rich, x -> x.station(n, 1), -1);
      refused("station(1, " + n + ")", LineMapRefusals::rich, x -> x.station(1, n), -1);
      refused("station(" + n + ", 0) of a full one", LineMapRefusals::full, x -> x.station(n, 0), -1);
      refused("station(0, " + n + ") of a full one", LineMapRefusals::full, x -> x.station(0, n), -1);
    }
    refused("station(100, 100)", LineMapRefusals::rich, x -> x.station(100, 100), -4);
    refused("station(300, 300)", LineMapRefusals::rich, x -> x.station(300, 300), -4);
    refused("station(0, 0) of a full one, twice", LineMapRefusals::full, x -> x.station(0, 0), -4);
    refused("station(900, 450) of a full one, twice", LineMapRefusals::full, x -> x.station(900, 450), -4);
    refused("station(0, 1) of a full one", LineMapRefusals::full, x -> x.station(0, 1), -5);
  }

  private static void line() {
    refused("line() of a full one", LineMapRefusals::full, LineMap::line, -5);
  }

  private static void lead() {
    for (int n : outside(0, 2)) refused("lead(" + n + ", 0)", LineMapRefusals::rich, x -> x.lead(n, 0), -2);
    for (int n : outside(0, 3)) {
      refused("lead(2, " + n + ")", LineMapRefusals::rich, x -> x.lead(2, n), -2);
      refused("lead(" + n + ", " + n + ")", LineMapRefusals::rich, x -> x.lead(n, n), -2);
    }
    refused("lead(0, 0), the first", LineMapRefusals::rich, x -> x.lead(0, 0), -4);
    refused("lead(0, 2), the last", LineMapRefusals::rich, x -> x.lead(0, 2), -4);
    for (int s = 0; s < 10; s++) {
      int station = s;
      refused("lead(5, " + s + ") of a full line, twice", LineMapRefusals::full, x -> x.lead(5, station), -4);
    }
    refused("lead(6, 0) of a full one", LineMapRefusals::full, x -> x.lead(6, 0), -2);
    refused("lead(5, 10) of a full line", LineMapRefusals::full, x -> x.lead(5, 10), -2);
  }

  private static void grid() {
    for (int n : outside(2, 8)) {
      refused("grid(" + n + ", 3)", LineMapRefusals::rich, x -> x.grid(n, 3), -1);
      refused("grid(3, " + n + ")", LineMapRefusals::rich, x -> x.grid(3, n), -1);
      refused("grid(" + n + ", " + n + ")", LineMapRefusals::rich, x -> x.grid(n, n), -1);
    }
  }

  private static void span() {
    for (int n : outside(1, 4)) {
      refused("span(" + n + ")", LineMapRefusals::rich, x -> x.span(n), -1);
      refused("span(" + n + ") of 3", LineMapRefusals::narrow, x -> x.span(n), -1);
    }
  }

  private static void terms() {
    for (int n : outside(0, 100)) {
      refused("terms(" + n + ", 1, 1)", LineMapRefusals::rich, x -> x.terms(n, 1, 1), -1);
      refused("terms(1, " + n + ", 1)", LineMapRefusals::rich, x -> x.terms(1, n, 1), -1);
      refused("terms(1, 1, " + n + ")", LineMapRefusals::rich, x -> x.terms(1, 1, n), -1);
    }
  }

  private static void place() {
    for (int n : outside(0, 5)) {
      refused("place(0, " + n + ", 1)", LineMapRefusals::rich, x -> x.place(0, n, 1), -1);
      refused("place(1, " + n + ", 1) of a held one", LineMapRefusals::rich, x -> x.place(1, n, 1), -1);
      refused("place(4, " + n + ", 1) of none", LineMapRefusals::rich, x -> x.place(4, n, 1), -1);
    }
    for (int n : outside(0, 3)) {
      refused("place(0, 1, " + n + ")", LineMapRefusals::rich, x -> x.place(0, 1, n), -1);
      refused("place(1, 1, " + n + ") of a held one", LineMapRefusals::rich, x -> x.place(1, 1, n), -1);
      refused("place(" + n + ", 1, " + n + ")", LineMapRefusals::rich, x -> x.place(n, 1, n), -1);
      refused("place(" + n + ", 1, 1)", LineMapRefusals::rich, x -> x.place(n, 1, 1), -2);
    }
    refused("place(10, 1, 1) of a full one", LineMapRefusals::full, x -> x.place(10, 1, 1), -2);
    refused("place(1, 1, 1) of a held one", LineMapRefusals::rich, x -> x.place(1, 1, 1), -6);
    refused("place(1, 2, 0) of one held just there", LineMapRefusals::rich, x -> x.place(1, 2, 0), -6);
  }

  private static void hold() {
    for (boolean is : new boolean[] {true, false}) {
      for (int n : outside(0, 3)) refused("hold(" + n + ", " + is + ")", LineMapRefusals::rich, x -> x.hold(n, is), -2);
      refused("hold(4, " + is + ") without a point", LineMapRefusals::partly, x -> x.hold(4, is), -2);
      refused("hold(10, " + is + ") of a full one", LineMapRefusals::full, x -> x.hold(10, is), -2);
    }
  }

  private static void best() {
    refused("best() of six", LineMapRefusals::six, LineMap::best, -5);
    refused("best() on 28 points", LineMapRefusals::large, LineMap::best, -5);
    refused("best() of a full one", LineMapRefusals::full, LineMap::best, -5);
    refused("best() without room for a span", LineMapRefusals::narrow, LineMap::best, -6);
  }

  private static void better() {
    refused("better() with two at one point", LineMapRefusals::faulty, LineMap::better, -6);
    refused("better() with one without a point", LineMapRefusals::partly, LineMap::better, -6);
  }

  private static void name() {
    for (int n : outside(0, 12)) {
      refused("name(0, " + n + ")", LineMapRefusals::rich, x -> x.name(0, n), -1);
      refused("name(4, " + n + ") of none", LineMapRefusals::rich, x -> x.name(4, n), -1);
    }
    for (int n : outside(0, 3)) refused("name(" + n + ", 9)", LineMapRefusals::rich, x -> x.name(n, 9), -2);
  }

  private static void put() {
    refused("put() with two at one point", LineMapRefusals::faulty, LineMap::put, -6);
    refused("put() with one without a point", LineMapRefusals::partly, LineMap::put, -6);
  }

  private static void image() {
    for (int n : outside(0, 2)) refused("image(" + n + ")", LineMapRefusals::faulty, x -> x.image(n), -1);
  }

  private static void back() {
    for (int n : outside(0, 2)) refused("back(" + n + ")", LineMapRefusals::faulty, x -> x.back(n), -1);
    refused("back(1), not kept", LineMapRefusals::faulty, x -> x.back(1), -6);
    for (int k = 0; k < 3; k++) {
      int image = k;
      refused("back(" + k + "), none kept", LineMapRefusals::full, x -> x.back(image), -6);
    }
  }

  // status

  private static void aheadOfAny() {
    LineMap x = new LineMap();
    due("status() of a new one", x.status(), 0);
    lookAtNothing(x);
    due("status() ahead of any", x.status(), 0);
  }

  /** Calls that only look, with numbers that can't be. */
  private static void lookAtNothing(LineMap x) {
    for (int n : new int[] {LEAST, -1, 99, MOST}) {
      due("of(" + n + ", 0)", x.of(n, 0), NONE);
      due("edge(" + n + ", 1)", x.edge(n, 1), NONE);
      due("round(" + n + ", 0)", x.round(n, 0), NONE);
      due("point(" + n + ")", x.point(n), NONE);
      due("why(" + n + ")", x.why(n), -1);
      due("cost(" + n + ")", x.cost(n), -1);
      due("named(" + n + ", 0)", x.named(n, 0), NONE);
      due("count(" + n + ")", x.count(n), NONE);
    }
  }

  private static void looking() {
    LineMap x = faulty();
    due("status()", x.status(), 0);
    lookAtNothing(x);
    due("cost(0) where it isn't allowed", x.cost(0), -6);
    due("why(0)", x.why(0), 2);
    due("status() after looking", x.status(), 0);
    due("back(1)", x.back(1), -6);
    lookAtNothing(x);
    due("count(0)", x.count(0), 4);
    due("cost(0) where it isn't allowed", x.cost(0), -6);
    due("status() after looking", x.status(), -6);
  }

  /** Each of the calls that status() tells of, accepted after a refusal. */
  private static void accepted() {
    clears("station", x -> x.station(1, 1), 4);
    clears("line", LineMap::line, 3);
    clears("lead", x -> x.lead(2, 3), 1);
    clears("grid", x -> x.grid(4, 4), 0);
    clears("span", x -> x.span(2), 1);
    clears("terms", x -> x.terms(0, 0, 0), 0);
    clears("place", x -> x.place(0, 1, 0), 0);
    clears("hold", x -> x.hold(0, true), 0);
    clears("best", LineMap::best, 2 * 3);
    clears("better", LineMap::better, 3);
    clears("name", x -> x.name(1, 0), 4);
    clears("put", LineMap::put, 2);
    clears("image", x -> x.image(1), 0);
    clears("back", x -> x.back(2), 0);
  }

  private static void clears(String call, ToIntFunction<LineMap> asked, int answer) {
    for (int n = 0; n < 3; n++) {
      LineMap x = rich();
      int reason = n == 0 ? x.span(0) : n == 1 ? x.place(9, 0, 0) : x.station(100, 100);
      due("status() after a refusal", x.status(), reason);
      due(call, asked.applyAsInt(x), answer);
      due(call + ", then status()", x.status(), 0);
    }
  }
}

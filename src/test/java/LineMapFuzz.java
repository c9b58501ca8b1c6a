import java.util.ArrayList;
import java.util.Arrays;
import java.util.HashMap;
import java.util.List;
import java.util.Map;
import java.util.Random;
import java.util.TreeSet;

/**
 * Long runs of drawn-by-lot calls, each answer held against a second program that follows the
 * document word by word and takes no short cuts. Arguments: how many runs, the first seed, and the
 * most drawings that the second program may look through for one best().
 */
public final class LineMapFuzz {
  private static int wrong = 0;
  private static long mostWork = 250_000;

  public static void main(String[] args) {
    int runs = args.length > 0 ? Integer.parseInt(args[0]) : 1600;
    long seed = args.length > 1 ? Long.parseLong(args[1]) : 1;
    if (args.length > 2) mostWork = Long.parseLong(args[2]);
    for (int run = 0; run < runs && wrong < 20; run++) {
      new Run(seed + run).go();
    }
    System.out.println(wrong == 0 ? runs + " runs: all answers are as due" : wrong + " answers are not as due");
    if (wrong != 0) System.exit(1);
  }

  /** One object, one oracle, the same calls to both. */
  private static final class Run {
    final long seed;
    final Random lot;
    final LineMap map = new LineMap();
    final Oracle oracle;
    final List<String> calls = new ArrayList<>();
    final boolean small;
    boolean broken = false;

    Run(long seed) {
      this.seed = seed;
      // seeds side by side begin alike if they are not spread first
      lot = new Random(seed * 0x9E3779B97F4A7C15L);
      small = lot.nextInt(2) == 0;
      oracle = new Oracle();
    }

    void due(String call, int got, int want) {
      calls.add(call + " = " + got);
      if (got != want) {
        wrong++;
        broken = true;
        System.out.println("seed " + seed + ": " + call + " answered " + got + ", due is " + want);
        if (wrong == 1) for (String c : calls) System.out.println("    " + c);
      }
    }

    /** An object is made for 512 calls; a step and the looks behind it are fewer than 80. */
    void go() {
      build();
      for (int n = 0; n < 512 && calls.size() < 430 && !broken; n++) {
        int before = calls.size();
        step();
        due("status()", map.status(), oracle.status);
        // a step may have made no call; the first one since is that of status() then
        if (calls.get(before).startsWith("b")) lookAtPoints();
        if (calls.get(before).startsWith("put")) lookAtNames();
        look(lot.nextInt(7));
      }
    }

    int station() { return lot.nextInt(12) == 0 ? lot.nextInt(14) - 2 : lot.nextInt(Math.max(1, oracle.xs.size())); }
    int line() { return lot.nextInt(12) == 0 ? lot.nextInt(9) - 2 : lot.nextInt(Math.max(1, oracle.lines.size())); }

    void build() {
      int stations = small ? 1 + lot.nextInt(5) : 3 + lot.nextInt(8);
      int step = lot.nextBoolean() ? 1 : 250;
      for (int i = 0; i < stations; i++) addStation(step);
      int lines = lot.nextInt(4);
      boolean isStar = lot.nextInt(3) == 0;
      for (int i = 0; i < lines; i++) {
        addLine();
        if (isStar) addRay(i);
        int leads = 2 + lot.nextInt(3);
        for (int k = 0; k < leads && !isStar; k++) addLead();
      }
      if (small || lot.nextBoolean()) setGrid();
    }

    void addStation(int step) {
      int x = step == 1 ? lot.nextInt(1001) : step * lot.nextInt(5);
      int y = step == 1 ? lot.nextInt(1001) : step * lot.nextInt(5);
      if (lot.nextInt(20) == 0) x = lot.nextBoolean() ? -1 : 1001;
      if (lot.nextInt(20) == 0) y = lot.nextBoolean() ? -1 : 1001;
      due("station(" + x + ", " + y + ")", map.station(x, y), oracle.station(x, y));
    }

    void addLine() { due("line()", map.line(), oracle.line()); }

    void addLead() {
      int l = line();
      int s = station();
      due("lead(" + l + ", " + s + ")", map.lead(l, s), oracle.lead(l, s));
    }

    /** A line right through station 0, so that this one has many neighbours. */
    void addRay(int l) {
      int n = oracle.xs.size();
      for (int s : new int[] {lot.nextInt(Math.max(1, n)), 0, lot.nextInt(Math.max(1, n))})
        due("lead(" + l + ", " + s + ")", map.lead(l, s), oracle.lead(l, s));
    }

    void setGrid() {
      int w = small ? 2 + lot.nextInt(2) : 2 + lot.nextInt(lot.nextBoolean() ? 7 : 3);
      int h = small ? 2 + lot.nextInt(3) : 2 + lot.nextInt(7);
      if (lot.nextInt(15) == 0) w = lot.nextBoolean() ? 1 : 9;
      if (lot.nextInt(15) == 0) h = lot.nextBoolean() ? 1 : 9;
      due("grid(" + w + ", " + h + ")", map.grid(w, h), oracle.grid(w, h));
    }

    void setPlace() {
      int s = station();
      int x = lot.nextInt(oracle.w);
      int y = lot.nextInt(oracle.h);
      if (lot.nextInt(20) == 0) x = lot.nextBoolean() ? -1 : oracle.w;
      if (lot.nextInt(20) == 0) y = lot.nextBoolean() ? -1 : oracle.h;
      due("place(" + s + ", " + x + ", " + y + ")", map.place(s, x, y), oracle.place(s, x, y));
    }

    /**
     * Looks by lot for a drawing that is allowed, so that better and put have one to begin with, or
     * for one in which at least each edge is straight and long enough.
     */
    void draw(boolean isAllowed) {
      int n = oracle.xs.size();
      for (int tries = 0; tries < 300; tries++) {
        int[] p = new int[n];
        boolean ok = true;
        for (int s = 0; s < n && ok; s++) {
          ok = false;
          for (int t = 0; t < 40 && !ok; t++) {
            p[s] = oracle.held.get(s) ? oracle.at.get(s) : lot.nextInt(oracle.w * oracle.h);
            ok = oracle.partial(p, s + 1);
          }
        }
        if (ok && (!isAllowed || oracle.whyOf(p)[0] == 0)) {
          for (int s = 0; s < n; s++) {
            int x = p[s] % oracle.w;
            int y = p[s] / oracle.w;
            due("place(" + s + ", " + x + ", " + y + ")", map.place(s, x, y), oracle.place(s, x, y));
          }
          return;
        }
      }
    }

    void step() {
      int kind = lot.nextInt(100);
      if (kind < 2) addStation(lot.nextBoolean() ? 1 : 250);
      else if (kind < 3) addLine();
      else if (kind < 7) addLead();
      else if (kind < 9) setGrid();
      else if (kind < 12) {
        int n = lot.nextInt(10) == 0 ? lot.nextInt(7) - 1 : lot.nextInt(10) == 0 ? 3 : 1 + lot.nextInt(2);
        due("span(" + n + ")", map.span(n), oracle.span(n));
      } else if (kind < 16) {
        int top = lot.nextBoolean() ? 103 : 4;
        int b = lot.nextInt(top) - 1;
        int w = lot.nextInt(top) - 1;
        int t = lot.nextInt(top) - 1;
        due("terms(" + b + ", " + w + ", " + t + ")", map.terms(b, w, t), oracle.terms(b, w, t));
      } else if (kind < 40) setPlace();
      else if (kind < 46) draw(true);
      else if (kind < 49) draw(false);
      else if (kind < 56) {
        int s = station();
        boolean is = lot.nextInt(3) == 0;
        due("hold(" + s + ", " + is + ")", map.hold(s, is), oracle.hold(s, is));
      } else if (kind < 64) {
        if (oracle.xs.size() > 5 || oracle.w * oracle.h > 25 || oracle.work() < mostWork) {
          due("best()", map.best(), oracle.best());
        }
      } else if (kind < 72) due("better()", map.better(), oracle.better());
      else if (kind < 74) {
        for (int s = 0; s < oracle.xs.size(); s++) {
          int n = 5 + lot.nextInt(8);
          due("name(" + s + ", " + n + ")", map.name(s, n), oracle.name(s, n));
        }
      } else if (kind < 82) {
        int s = station();
        int n = lot.nextInt(8) == 0 ? lot.nextInt(16) - 1 : lot.nextInt(13);
        due("name(" + s + ", " + n + ")", map.name(s, n), oracle.name(s, n));
      } else if (kind < 90) due("put()", map.put(), oracle.put());
      else if (kind < 95) {
        int k = lot.nextInt(5) - 1;
        due("image(" + k + ")", map.image(k), oracle.image(k));
      } else {
        int k = lot.nextInt(5) - 1;
        due("back(" + k + ")", map.back(k), oracle.back(k));
      }
    }

    void look(int kind) {
      switch (kind) {
        case 0 -> lookAtRows();
        case 1 -> lookAtEdges();
        case 2 -> lookAtRings();
        case 3 -> lookAtPoints();
        case 4 -> lookAtNames();
        case 5 -> lookAtCounts();
        default -> lookAtFaults();
      }
    }

    void lookAtRows() {
      int l = lot.nextInt(oracle.lines.size() + 2) - 1;
      for (int i = -2; i <= oracle.of(l, -1); i++) due("of(" + l + ", " + i + ")", map.of(l, i), oracle.of(l, i));
    }

    void lookAtEdges() {
      due("edge(-1, 0)", map.edge(-1, 0), oracle.edge(-1, 0));
      for (int n = 0; n < 3; n++) {
        int e = lot.nextInt(oracle.edges().size() + 3) - 2;
        for (int k = -1; k <= 3; k++) due("edge(" + e + ", " + k + ")", map.edge(e, k), oracle.edge(e, k));
      }
    }

    void lookAtRings() {
      int s = lot.nextInt(oracle.xs.size() + 2) - 1;
      for (int i = -2; i <= oracle.round(s, -1); i++) due("round(" + s + ", " + i + ")", map.round(s, i), oracle.round(s, i));
    }

    void lookAtPoints() {
      for (int s = -1; s <= oracle.xs.size(); s++) due("point(" + s + ")", map.point(s), oracle.point(s));
    }

    void lookAtNames() {
      for (int s = 0; s <= oracle.xs.size(); s++)
        for (int k = 0; k <= 2; k++) due("named(" + s + ", " + k + ")", map.named(s, k), oracle.named(s, k));
    }

    void lookAtCounts() {
      for (int k = -1; k <= 7; k++) due("count(" + k + ")", map.count(k), oracle.count(k));
    }

    void lookAtFaults() {
      for (int k = -1; k <= 3; k++) due("why(" + k + ")", map.why(k), oracle.why(k));
      for (int k = -1; k <= 4; k++) due("cost(" + k + ")", map.cost(k), oracle.cost(k));
      due("status()", map.status(), oracle.status);
    }
  }

  /** The document, word by word. */
  private static final class Oracle {
    final List<Integer> xs = new ArrayList<>();
    final List<Integer> ys = new ArrayList<>();
    final List<List<Integer>> lines = new ArrayList<>();
    List<Integer> at = new ArrayList<>();
    List<Boolean> held = new ArrayList<>();
    final List<Integer> signs = new ArrayList<>();
    int w = 5, h = 5, span = 1, bend = 10, way = 1, turn = 3, status = 0;
    int[] putPlace = new int[0];
    int[] putBy = new int[0];
    final Map<Integer, Object[]> images = new HashMap<>();

    int no(int reason) { status = reason; return reason; }
    int yes(int answer) { status = 0; return answer; }
    boolean isStation(int s) { return s >= 0 && s < xs.size(); }

    int station(int x, int y) {
      if (x < 0 || x > 1000 || y < 0 || y > 1000) return no(-1);
      for (int s = 0; s < xs.size(); s++) if (xs.get(s) == x && ys.get(s) == y) return no(-4);
      if (xs.size() == 10) return no(-5);
      xs.add(x); ys.add(y); at.add(-1); held.add(false); signs.add(0);
      return yes(xs.size() - 1);
    }

    int line() {
      if (lines.size() == 6) return no(-5);
      lines.add(new ArrayList<>());
      return yes(lines.size() - 1);
    }

    int lead(int l, int s) {
      if (l < 0 || l >= lines.size() || !isStation(s)) return no(-2);
      if (lines.get(l).contains(s)) return no(-4);
      if (lines.get(l).size() == 10) return no(-5);
      lines.get(l).add(s);
      return yes(lines.get(l).size());
    }

    int of(int l, int i) {
      if (l < 0 || l >= lines.size()) return -1;
      if (i == -1) return lines.get(l).size();
      return i < 0 || i >= lines.get(l).size() ? -1 : lines.get(l).get(i);
    }

    List<int[]> edges() {
      TreeSet<Integer> all = new TreeSet<>();
      for (List<Integer> l : lines)
        for (int i = 1; i < l.size(); i++)
          all.add(100 * Math.min(l.get(i), l.get(i - 1)) + Math.max(l.get(i), l.get(i - 1)));
      List<int[]> list = new ArrayList<>();
      for (int e : all) list.add(new int[] {e / 100, e % 100});
      return list;
    }

    int trueDirection(int a, int b) {
      int x = xs.get(b) - xs.get(a);
      int y = ys.get(b) - ys.get(a);
      if (1000 * Math.abs(y) < 414 * Math.abs(x)) return x > 0 ? 0 : 4;
      if (1000 * Math.abs(x) < 414 * Math.abs(y)) return y > 0 ? 2 : 6;
      if (x > 0 && y > 0) return 1;
      if (x < 0 && y > 0) return 3;
      return x < 0 ? 5 : 7;
    }

    int edge(int e, int what) {
      List<int[]> all = edges();
      if (e == -1 && what == 0) return all.size();
      if (e < 0 || e >= all.size() || what < 0 || what > 2) return -1;
      int[] pair = all.get(e);
      return what == 2 ? trueDirection(pair[0], pair[1]) : pair[what];
    }

    List<Integer> ring(int s) {
      List<Integer> n = new ArrayList<>();
      for (int[] e : edges()) {
        if (e[0] == s) n.add(e[1]);
        if (e[1] == s) n.add(e[0]);
      }
      n.sort((a, b) -> {
        int c = Double.compare(angle(s, a), angle(s, b));
        return c != 0 ? c : Integer.compare(a, b);
      });
      return n;
    }

    /** Steps alike but for their length are first made the same one, so that doubles do. */
    double angle(int s, int n) {
      int x = xs.get(n) - xs.get(s);
      int y = ys.get(n) - ys.get(s);
      int g = gcd(Math.abs(x), Math.abs(y));
      double a = Math.atan2((double) y / g, (double) x / g);
      return a < 0 ? a + 2 * Math.PI : a;
    }

    static int gcd(int a, int b) { return b == 0 ? a : gcd(b, a % b); }

    int round(int s, int i) {
      if (!isStation(s)) return -1;
      List<Integer> n = ring(s);
      if (i == -1) return n.size();
      return i < 0 || i >= n.size() ? -1 : n.get(i);
    }

    int grid(int nw, int nh) {
      if (nw < 2 || nw > 8 || nh < 2 || nh > 8) return no(-1);
      w = nw; h = nh;
      for (int s = 0; s < xs.size(); s++) { at.set(s, -1); held.set(s, false); }
      return yes(0);
    }

    int span(int n) {
      if (n < 1 || n > 4) return no(-1);
      int old = span;
      span = n;
      return yes(old);
    }

    int terms(int b, int y, int t) {
      for (int n : new int[] {b, y, t}) if (n < 0 || n > 100) return no(-1);
      bend = b; way = y; turn = t;
      return yes(0);
    }

    int place(int s, int x, int y) {
      if (x < 0 || x >= w || y < 0 || y >= h) return no(-1);
      if (!isStation(s)) return no(-2);
      if (held.get(s)) return no(-6);
      at.set(s, y * w + x);
      return yes(0);
    }

    int point(int s) { return isStation(s) ? at.get(s) : -1; }

    int hold(int s, boolean is) {
      if (!isStation(s) || at.get(s) == -1) return no(-2);
      held.set(s, is);
      return yes(0);
    }

    int[] now() {
      int[] p = new int[at.size()];
      for (int s = 0; s < p.length; s++) p[s] = at.get(s);
      return p;
    }

    static final int[] DX = {1, 1, 0, -1, -1, -1, 0, 1};
    static final int[] DY = {0, 1, 1, 1, 0, -1, -1, -1};

    /** The direction of a step by walking in each; -1 where none comes there. */
    int direction(int p, int q) {
      for (int d = 0; d < 8; d++)
        for (int n = 1; n < 8; n++)
          if (p % w + n * DX[d] == q % w && p / w + n * DY[d] == q / w) return d;
      return -1;
    }

    int length(int p, int q) { return Math.max(Math.abs(p % w - q % w), Math.abs(p / w - q / w)); }

    /** All points of an edge that any other could share with it: by half steps. */
    TreeSet<Integer> halves(int p, int q) {
      TreeSet<Integer> all = new TreeSet<>();
      int d = direction(p, q);
      for (int n = 0; n <= 2 * length(p, q); n++)
        all.add((2 * (p / w) + n * DY[d]) * 100 + 2 * (p % w) + n * DX[d]);
      return all;
    }

    int half(int p) { return 2 * (p / w) * 100 + 2 * (p % w); }

    int[] whyOf(int[] p) {
      int n = p.length;
      for (int s = 0; s < n; s++) if (p[s] == -1) return new int[] {1, s, -1};
      for (int a = 0; a < n; a++)
        for (int b = a + 1; b < n; b++) if (p[a] == p[b]) return new int[] {2, a, b};
      List<int[]> es = edges();
      for (int e = 0; e < es.size(); e++)
        if (direction(p[es.get(e)[0]], p[es.get(e)[1]]) == -1) return new int[] {3, e, -1};
      for (int e = 0; e < es.size(); e++)
        if (length(p[es.get(e)[0]], p[es.get(e)[1]]) < span) return new int[] {4, e, -1};
      List<TreeSet<Integer>> cells = new ArrayList<>();
      for (int[] e : es) cells.add(halves(p[e[0]], p[e[1]]));
      for (int e = 0; e < es.size(); e++)
        for (int s = 0; s < n; s++)
          if (s != es.get(e)[0] && s != es.get(e)[1] && cells.get(e).contains(half(p[s]))) return new int[] {5, e, s};
      for (int e = 0; e < es.size(); e++)
        for (int f = e + 1; f < es.size(); f++) {
          TreeSet<Integer> both = new TreeSet<>(cells.get(e));
          both.retainAll(cells.get(f));
          for (int a : es.get(e)) for (int b : es.get(f)) if (a == b) both.remove(half(p[a]));
          if (!both.isEmpty()) return new int[] {6, e, f};
        }
      for (int s = 0; s < n; s++) if (isTwisted(p, s)) return new int[] {7, s, -1};
      return new int[] {0, -1, -1};
    }

    boolean isTwisted(int[] p, int s) {
      List<Integer> want = ring(s);
      if (want.size() < 3) return false;
      List<Integer> have = new ArrayList<>(want);
      have.sort((a, b) -> Integer.compare(direction(p[s], p[a]), direction(p[s], p[b])));
      for (int k = 0; k < want.size(); k++) {
        if (have.equals(want)) return false;
        have.add(have.remove(0));
      }
      return true;
    }

    /** Whether the first n stations may go so as far as points and directions tell. */
    boolean partial(int[] p, int n) {
      for (int a = 0; a < n - 1; a++) if (p[a] == p[n - 1]) return false;
      for (int[] e : edges())
        if (e[1] == n - 1 && (direction(p[e[0]], p[e[1]]) == -1 || length(p[e[0]], p[e[1]]) < span)) return false;
      return true;
    }

    int why(int what) { return what < 0 || what > 2 ? -1 : whyOf(now())[what]; }

    static int turnOf(int a, int b) {
      int d = Math.abs(a - b);
      return Math.min(d, 8 - d);
    }

    int[] costOf(int[] p) {
      int[] c = new int[4];
      for (List<Integer> l : lines)
        for (int i = 1; i + 1 < l.size(); i++)
          c[1] += turnOf(direction(p[l.get(i - 1)], p[l.get(i)]), direction(p[l.get(i)], p[l.get(i + 1)]));
      for (int[] e : edges()) {
        c[2] += length(p[e[0]], p[e[1]]);
        c[3] += turnOf(direction(p[e[0]], p[e[1]]), trueDirection(e[0], e[1]));
      }
      c[0] = c[1] * bend + c[2] * way + c[3] * turn;
      return c;
    }

    int cost(int what) {
      if (what < 0 || what > 3) return -1;
      if (whyOf(now())[0] != 0) return -6;
      return costOf(now())[what];
    }

    long work() {
      long n = 1;
      for (int s = 0; s < xs.size(); s++) n *= held.get(s) ? 1 : w * h;
      return n;
    }

    int bestCost;
    int[] bestAt;

    int best() {
      if (xs.size() > 5 || w * h > 25) return no(-5);
      bestAt = null;
      tryAll(new int[xs.size()], 0);
      if (bestAt == null) return no(-6);
      for (int s = 0; s < bestAt.length; s++) at.set(s, bestAt[s]);
      return yes(bestCost);
    }

    /** In the order of points of stations 0, 1, ..., so the first of those alike stays. */
    void tryAll(int[] p, int s) {
      if (s == p.length) {
        if (whyOf(p)[0] == 0 && (bestAt == null || costOf(p)[0] < bestCost)) {
          bestCost = costOf(p)[0];
          bestAt = p.clone();
        }
        return;
      }
      for (int q = 0; q < w * h; q++) {
        if (held.get(s) && q != at.get(s)) continue;
        p[s] = q;
        if (partial(p, s + 1)) tryAll(p, s + 1);
      }
    }

    int better() {
      if (whyOf(now())[0] != 0) return no(-6);
      int n = 0;
      while (n < 50) {
        int[] p = now();
        int least = costOf(p)[0];
        int who = -1;
        int where = -1;
        for (int s = 0; s < p.length; s++) {
          if (held.get(s)) continue;
          for (int q = 0; q < w * h; q++) {
            int[] t = p.clone();
            t[s] = q;
            if (whyOf(t)[0] == 0 && costOf(t)[0] < least) { least = costOf(t)[0]; who = s; where = q; }
          }
        }
        if (who == -1) break;
        at.set(who, where);
        n++;
      }
      return yes(n);
    }

    int name(int s, int n) {
      if (n < 0 || n > 12) return no(-1);
      if (!isStation(s)) return no(-2);
      return yes(signs.set(s, n));
    }

    static int cell(int x, int y) { return (y + 50) * 1000 + x + 100; }

    int put() {
      int[] p = now();
      if (whyOf(p)[0] != 0) return no(-6);
      Map<Integer, Integer> paint = new HashMap<>();
      for (int s = 0; s < p.length; s++) paint.putIfAbsent(cell(4 * (p[s] % w), 4 * (p[s] / w)), s);
      List<int[]> es = edges();
      for (int e = 0; e < es.size(); e++) {
        int a = p[es.get(e)[0]];
        int b = p[es.get(e)[1]];
        int d = direction(a, b);
        for (int n = 0; n <= 4 * length(a, b); n++)
          paint.putIfAbsent(cell(4 * (a % w) + n * DX[d], 4 * (a / w) + n * DY[d]), 100 + e);
      }
      putPlace = new int[p.length];
      putBy = new int[p.length];
      Arrays.fill(putPlace, -1);
      Arrays.fill(putBy, -1);
      int done = 0;
      for (int s = 0; s < p.length; s++) {
        if (signs.get(s) == 0) continue;
        for (int k = 0; k < 8 && putPlace[s] == -1; k++) {
          if (onPlace(paint, p[s], signs.get(s), k) == -1) {
            putPlace[s] = k;
            done++;
            for (int c : cellsOf(p[s], signs.get(s), k)) paint.put(c, 200 + s);
          }
        }
        if (putPlace[s] == -1) putBy[s] = onPlace(paint, p[s], signs.get(s), 0);
      }
      return yes(done);
    }

    int[] cellsOf(int p, int n, int k) {
      int x = 4 * (p % w);
      int y = 4 * (p / w);
      int[] first = {x + 1, x + 1, x - n / 2, x - n, x - n, x - n, x - n / 2, x + 1};
      int[] up = {0, 1, 1, 1, 0, -1, -1, -1};
      int[] cells = new int[n];
      for (int i = 0; i < n; i++) cells[i] = cell(first[k] + i, y + up[k]);
      return cells;
    }

    int onPlace(Map<Integer, Integer> paint, int p, int n, int k) {
      int least = Integer.MAX_VALUE;
      for (int c : cellsOf(p, n, k)) least = Math.min(least, paint.getOrDefault(c, Integer.MAX_VALUE));
      return least == Integer.MAX_VALUE ? -1 : least;
    }

    int named(int s, int what) {
      if (s < 0 || s >= putPlace.length || what < 0 || what > 1) return -1;
      return what == 0 ? putPlace[s] : putBy[s];
    }

    int image(int k) {
      if (k < 0 || k > 2) return no(-1);
      images.put(k, new Object[] {new ArrayList<>(at), new ArrayList<>(held), w, h});
      return yes(0);
    }

    @SuppressWarnings("unchecked")
    int back(int k) {
      if (k < 0 || k > 2) return no(-1);
      if (!images.containsKey(k)) return no(-6);
      Object[] i = images.get(k);
      at = new ArrayList<>((List<Integer>) i[0]);
      held = new ArrayList<>((List<Boolean>) i[1]);
      while (at.size() < xs.size()) { at.add(-1); held.add(false); }
      w = (Integer) i[2];
      h = (Integer) i[3];
      return yes(0);
    }

    int count(int what) {
      int placed = 0;
      int fast = 0;
      for (int s = 0; s < xs.size(); s++) {
        if (at.get(s) != -1) placed++;
        if (held.get(s)) fast++;
      }
      int[] all = {xs.size(), lines.size(), placed, fast, w, h, span};
      return what < 0 || what >= all.length ? -1 : all[what];
    }
  }
}

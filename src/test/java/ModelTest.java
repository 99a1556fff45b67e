import java.util.ArrayList;
import java.util.Arrays;
import java.util.Comparator;
import java.util.HashMap;
import java.util.HashSet;
import java.util.List;
import java.util.Map;
import java.util.Random;
import java.util.Set;

/** Random runs of calls, each answer held against a slow model that is written another way. */
public final class ModelTest {
  private static int wrong = 0;

  public static void main(String[] args) {
    int runs = args.length > 0 ? Integer.parseInt(args[0]) : 4000;
    for (int seed = 0; seed < runs && wrong == 0; seed++) {
      new Run(seed).play();
    }
    System.out.println(wrong == 0 ? "the model answers alike in " + runs + " runs" : wrong + " answers differ");
    if (wrong != 0) System.exit(1);
  }

  // ---- the model -------------------------------------------------------------------------------

  record Told(int year, int until) {}

  static final class MRight {
    int number, kind, holder, bench, from, units, since, first, known, price;
    boolean heirs;
    List<Told> ends = new ArrayList<>();
    int untilAt(int known) {
      int u = ends.get(0).until;
      for (Told t : ends) if (t.year <= known) u = t.until;
      return u;
    }
    int until() { return ends.get(ends.size() - 1).until; }
  }

  record Sale(int plot, int year, int owner) {}
  record Seat(int bench, int unit, int width, boolean byRight, int worth) {
    boolean same(Seat o) { return bench == o.bench && unit == o.unit && width == o.width; }
  }
  record Way(long sum, List<Integer> picks) {}

  static final class Fraction {
    final long n, d;
    Fraction(long n, long d) { this.n = d < 0 ? -n : n; this.d = Math.abs(d); }
    int to(Fraction o) { return Long.compare(n * o.d, o.n * d); }
  }

  static final class Model {
    int px = 30, py = 60, loud = 4000, use = 3, low = 10, year = 0, sales = 0;
    long fund = 0;
    List<int[]> pillars = new ArrayList<>();
    List<int[]> benches = new ArrayList<>();
    List<int[]> houses = new ArrayList<>();
    List<MRight> rights = new ArrayList<>();
    List<Sale> deeds = new ArrayList<>();
    List<Map<Integer, Seat>> years = new ArrayList<>();
    List<int[]> lots = new ArrayList<>();
    List<int[]> offers = new ArrayList<>();
    Map<Integer, Integer> won = null;
    Map<Integer, Integer> paid = null;
    long wonSum = 0;
    Map<Integer, Integer> swapped = new HashMap<>();
    List<Integer> sat = new ArrayList<>();
    long[][] rows = new long[4][];
    int[] widths = new int[4];

    static boolean in(long v, long a, long b) { return a <= v && v <= b; }
    boolean house(int h) { return in(h, 0, houses.size() - 1); }
    boolean gone(int h) { return houses.get(h)[3] == 1; }
    boolean stays(int h) { return house(h) && !gone(h); }
    boolean unitIs(int b, int u) { return in(b, 0, benches.size() - 1) && in(u, 0, benches.get(b)[2] - 1); }
    boolean unitsAre(int b, int f, int n) {
      return n >= 1 && unitIs(b, f) && (long) f + n <= benches.get(b)[2];
    }

    int pulpit(int x, int y, int l) {
      if (!in(x, 0, 60) || !in(y, 0, 60) || !in(l, 1, 100000)) return -2;
      px = x; py = y; loud = l;
      return 0;
    }
    int terms(int u, int l) {
      if (!in(u, 2, 30) || !in(l, 0, 100)) return -2;
      use = u; low = l;
      return 0;
    }
    int pillar(int x, int y, int half) {
      if (!in(x, 0, 60) || !in(y, 0, 60) || !in(half, 0, 5)) return -2;
      if (pillars.size() == 8) return -3;
      pillars.add(new int[] {x, y, half});
      return pillars.size() - 1;
    }
    int bench(int x, int y, int units, boolean gallery) {
      if (!in(y, 0, 60) || !in(units, 4, 32) || !in(x, 0, 60) || !in(x + units - 1, 0, 60)) return -2;
      if (benches.size() == 8) return -3;
      if (year > 0) return -9;
      benches.add(new int[] {x, y, units, gallery ? 1 : 0});
      return benches.size() - 1;
    }
    int household(int r, int w, int d) {
      if (!in(r, 0, 99) || !in(w, 1, 12) || !in(d, 0, 9)) return -2;
      if (houses.size() == 12) return -3;
      houses.add(new int[] {r, w, d, 0});
      return houses.size() - 1;
    }
    int changed(int h, int r, int w, int d) {
      if (!stays(h) || !in(r, 0, 99) || !in(w, 1, 12) || !in(d, 0, 9)) return -2;
      houses.set(h, new int[] {r, w, d, 0});
      return 0;
    }
    int gone(int h, int heir) {
      if (!stays(h) || heir == h || (heir != -1 && !stays(heir))) return -2;
      List<MRight> ending = new ArrayList<>();
      for (MRight r : rights) if (r.kind != 1 && r.holder == h && r.until() >= year) ending.add(r);
      int n = 0;
      for (MRight r : ending) if (r.heirs && heir >= 0) n++;
      if (rights.size() + n > 100) return -3;
      for (MRight r : ending) {
        int was = r.until();
        r.ends.add(new Told(year, year - 1));
        if (r.heirs && heir >= 0) {
          MRight x = add(r.kind, heir, r.bench, r.from, r.units, r.since, was, year);
          x.first = Math.max(year, r.since);
          x.heirs = true;
        }
      }
      for (int p = 0; p < 8; p++) if (plotOf(p, year) == h) deeds.add(new Sale(p, year, heir));
      houses.get(h)[3] = 1;
      return n;
    }
    MRight add(int kind, int holder, int b, int f, int n, int since, int until, int known) {
      MRight r = new MRight();
      r.number = rights.size();
      r.kind = kind; r.holder = holder; r.bench = b; r.from = f; r.units = n;
      r.since = since; r.first = since; r.known = known;
      r.ends.add(new Told(known, until));
      rights.add(r);
      return r;
    }
    int sell(int p, int h) {
      if (!in(p, 0, 7) || (h != -1 && !stays(h))) return -2;
      if (sales == 100) return -3;
      int was = plotOf(p, year);
      deeds.add(new Sale(p, year, h));
      sales++;
      return was;
    }
    int plotOf(int p, int y) {
      if (!in(p, 0, 7) || !in(y, 0, 199)) return -2;
      for (int i = deeds.size() - 1; i >= 0; i--) {
        if (deeds.get(i).plot == p && deeds.get(i).year <= y) return deeds.get(i).owner;
      }
      return -1;
    }
    int right(int k, int holder, int b, int f, int n, int since, int until, boolean heirs) {
      if (!in(k, 0, 3) || !unitsAre(b, f, n)) return -2;
      if (k == 1 ? !in(holder, 0, 7) : !house(holder)) return -2;
      if (!in(since, 0, 199) || !in(until, since, 199)) return -2;
      if (rights.size() == 100) return -3;
      MRight r = add(k, holder, b, f, n, since, until, year);
      r.heirs = heirs;
      return r.number;
    }
    boolean ends(int n) {
      if (!in(n, 0, rights.size() - 1) || rights.get(n).until() < year) return false;
      rights.get(n).ends.add(new Told(year, year - 1));
      return true;
    }
    int rightOf(int n, int what) {
      if (!in(n, 0, rights.size() - 1) || !in(what, 0, 9)) return -2;
      MRight r = rights.get(n);
      int[] all = {r.kind, r.holder, r.bench, r.from, r.units, r.since, r.until(), r.known, r.heirs ? 1 : 0, r.price};
      return all[what];
    }
    int inWay(int x, int y) {
      int n = 0;
      for (int[] p : pillars) if (meets(x, y, p)) n++;
      return n;
    }
    /** The stretch of the line that lies in both strips of the square is not empty. */
    boolean meets(int x, int y, int[] p) {
      Fraction lo = new Fraction(0, 1), hi = new Fraction(1, 1);
      int[][] strips = {{x, px - x, p[0] - p[2], p[0] + p[2]}, {y, py - y, p[1] - p[2], p[1] + p[2]}};
      for (int[] s : strips) {
        if (s[1] == 0) {
          if (!in(s[0], s[2], s[3])) return false;
          continue;
        }
        Fraction a = new Fraction(s[2] - s[0], s[1]), b = new Fraction(s[3] - s[0], s[1]);
        if (a.to(b) > 0) { Fraction t = a; a = b; b = t; }
        if (a.to(lo) > 0) lo = a;
        if (b.to(hi) < 0) hi = b;
      }
      return lo.to(hi) <= 0;
    }
    int unit(int b, int u, int what) {
      if (!unitIs(b, u) || !in(what, 0, 2)) return -2;
      int[] z = benches.get(b);
      int way = inWay(z[0] + u, z[1]);
      if (what == 1) return way;
      if (what == 2) return way == 0 ? 1 : 0;
      int d = (z[0] + u - px) * (z[0] + u - px) + (z[1] - py) * (z[1] - py);
      int v = loud / (10 + d);
      for (int i = 0; i < way; i++) v /= 2;
      if (z[3] == 1) v = v * 3 / 4;
      return v;
    }
    Map<String, int[]> sounds = new HashMap<>();
    int[] sound(int b, int u) {
      String key = px + "," + py + "," + loud + "," + pillars.size() + "," + b + "," + u;
      return sounds.computeIfAbsent(key, k -> new int[] {unit(b, u, 0), unit(b, u, 2)});
    }
    int runWorth(int b, int f, int w, int deaf) {
      int sum = 0, most = 0;
      for (int u = f; u < f + w; u++) {
        int[] s = sound(b, u);
        sum += s[0] + s[1];
        most = Math.max(most, s[0]);
      }
      return sum + deaf * most;
    }
    int worth(int h, int b, int u) {
      if (!house(h) || !unitsAre(b, u, houses.get(h)[1])) return -2;
      return runWorth(b, u, houses.get(h)[1], houses.get(h)[2]);
    }
    int holder(MRight r, int y) { return r.kind == 1 ? plotOf(r.holder, y) : r.holder; }
    MRight best(int b, int u, int y, int known, Set<Integer> among) {
      List<MRight> fit = new ArrayList<>();
      for (MRight r : rights) {
        boolean on = r.bench == b && in(u, r.from, r.from + r.units - 1);
        if (on && r.known <= known && in(y, r.first, r.untilAt(known)) && holder(r, y) >= 0
            && (among == null || among.contains(holder(r, y)))) fit.add(r);
      }
      fit.sort(Comparator.<MRight>comparingInt(r -> r.kind).thenComparingInt(r -> r.since).thenComparingInt(r -> r.number));
      return fit.isEmpty() ? null : fit.get(0);
    }
    int owner(int b, int u) {
      MRight r = best(b, u, year, year, null);
      return r == null ? -1 : holder(r, year);
    }
    int belongs(int b, int u, int y, int known, int what) {
      if (!unitIs(b, u) || !in(y, 0, 199) || !in(known, 0, year) || !in(what, 0, 1)) return -2;
      MRight r = best(b, u, y, known, null);
      return r == null ? -1 : what == 1 ? r.number : holder(r, y);
    }
    int judge(int a, int c, int b, int u, int y, int known) {
      if (!house(a) || !house(c) || a == c || !unitIs(b, u) || !in(y, 0, 199) || !in(known, 0, year)) return -2;
      MRight r = best(b, u, y, known, Set.of(a, c));
      return r == null ? -1 : holder(r, y);
    }

    int lot(int b, int f, int n, int y) {
      if (!unitsAre(b, f, n) || !in(y, 1, 30)) return -2;
      if (lots.size() == 8) return -3;
      lots.add(new int[] {b, f, n, y});
      offers.add(new int[12]);
      return lots.size() - 1;
    }
    int offers(int l, int p) {
      if (!in(l, 0, lots.size() - 1) || !in(p, 0, 3)) return -2;
      if (rows[p] == null) return -5;
      for (long v : rows[p]) if (!in(v, 0, 10000)) return -4;
      int[] o = new int[12];
      int n = 0;
      for (int h = 0; h < houses.size() && h < rows[p].length; h++) {
        if (!gone(h)) o[h] = (int) rows[p][h];
        if (o[h] > 0) n++;
      }
      offers.set(l, o);
      return n;
    }
    int offer(int l, int h) { return stays(h) ? offers.get(l)[h] : 0; }
    Way bestWay(int h, int taken, int without, Map<Integer, Way> memo) {
      if (h == 12) return new Way(0, List.of());
      Way known = memo.get(h * 1000 + taken);
      if (known != null) return known;
      Way top = null;
      for (int l = 0; l <= lots.size(); l++) {
        boolean none = l == lots.size();
        if (!none && (h == without || (taken >> l & 1) == 1 || offer(l, h) == 0)) continue;
        Way rest = bestWay(h + 1, none ? taken : taken | 1 << l, without, memo);
        top = better(top, (none ? 0 : offer(l, h)) + rest.sum, l, rest);
      }
      memo.put(h * 1000 + taken, top);
      return top;
    }
    static Way better(Way top, long sum, int pick, Way rest) {
      List<Integer> picks = new ArrayList<>();
      picks.add(pick);
      picks.addAll(rest.picks);
      if (top == null || sum > top.sum) return new Way(sum, picks);
      if (sum < top.sum) return top;
      for (int i = 0; i < picks.size(); i++) {
        int c = Integer.compare(picks.get(i), top.picks.get(i));
        if (c != 0) return c < 0 ? new Way(sum, picks) : top;
      }
      return top;
    }
    long knock() {
      if (lots.isEmpty()) return -1;
      Way w = bestWay(0, 0, -1, new HashMap<>());
      Map<Integer, Integer> got = new HashMap<>();
      for (int h = 0; h < 12; h++) if (w.picks.get(h) < lots.size()) got.put(h, w.picks.get(h));
      if (rights.size() + got.size() > 100) return -3;
      won = got;
      paid = new HashMap<>();
      wonSum = w.sum;
      long in = 0;
      for (int h = 0; h < 12; h++) {
        if (!got.containsKey(h)) continue;
        int[] l = lots.get(got.get(h));
        long price = bestWay(0, 0, h, new HashMap<>()).sum - (w.sum - offer(got.get(h), h));
        paid.put(h, (int) price);
        in += price;
        add(3, h, l[0], l[1], l[2], year, Math.min(199, year + l[3] - 1), year).price = (int) price;
      }
      lots.clear();
      offers.clear();
      fund += in;
      return in;
    }
    long knocked(int h, int what) {
      if (!house(h) || won == null || !in(what, 0, 2)) return -2;
      return what == 0 ? won.getOrDefault(h, -1) : what == 1 ? paid.getOrDefault(h, 0) : wonSum;
    }

    int look(int h, Set<Integer> left) {
      Map<Integer, Seat> then = years.get(year - 1);
      int w = houses.get(h)[1], most = -1;
      List<Integer> equal = new ArrayList<>();
      for (int j : left) {
        Seat s = then.get(j);
        if (s.width < w) continue;
        int v = runWorth(s.bench, s.unit, w, houses.get(h)[2]);
        if (v > most) { equal.clear(); most = v; }
        if (v == most) equal.add(j);
      }
      if (equal.isEmpty() || equal.contains(h)) return h;
      return equal.stream().min(Integer::compare).get();
    }
    /** One ring at a time, the one that is found from the least number on. */
    int change(int set) {
      for (int i = 0; i < 32; i++) if ((set >>> i & 1) == 1 && !house(i)) return -2;
      if (year == 0) return -9;
      Set<Integer> left = new HashSet<>();
      for (int h = 0; h < houses.size(); h++) {
        if ((set >> h & 1) == 1 && !gone(h) && years.get(year - 1).containsKey(h)) left.add(h);
      }
      swapped = new HashMap<>();
      int n = 0;
      while (!left.isEmpty()) {
        int at = left.stream().min(Integer::compare).get();
        for (int i = 0; i < 20; i++) at = look(at, left);
        List<Integer> ring = new ArrayList<>();
        for (int j = at; !ring.contains(j); j = look(j, left)) ring.add(j);
        Map<Integer, Integer> looks = new HashMap<>();
        for (int j : ring) looks.put(j, look(j, left));
        for (int j : ring) if (looks.get(j) != j) n++;
        swapped.putAll(looks);
        left.removeAll(ring);
      }
      return n;
    }
    int changedTo(int h) { return swapped.getOrDefault(h, -1); }

    /** {bench, unit} of the best run of units that a test lets through. */
    int[] bestRun(int w, int deaf, boolean galleries, Set<Integer> open) {
      int[] top = null;
      int most = -1;
      for (int b = 0; b < benches.size(); b++) {
        if (benches.get(b)[3] == 1 && !galleries) continue;
        for (int u = 0; u + w <= benches.get(b)[2]; u++) {
          boolean all = true;
          for (int i = u; i < u + w; i++) all &= open.contains(b * 100 + i);
          if (!all) continue;
          int v = runWorth(b, u, w, deaf);
          if (v > most) { most = v; top = new int[] {b, u}; }
        }
      }
      return top;
    }
    static Set<Integer> spots(Seat s) {
      Set<Integer> out = new HashSet<>();
      for (int u = s.unit; u < s.unit + s.width; u++) out.add(s.bench * 100 + u);
      return out;
    }
    int sunday(int p, int bell) {
      if (!in(p, 0, 3) || !in(bell, 0, 60)) return -2;
      if (rows[p] == null) return -5;
      Set<Long> seen = new HashSet<>();
      for (long v : rows[p]) {
        if (v < -12 || v >= houses.size()) return -4;
        if (v >= 0 && (gone((int) v) || !seen.add(v))) return -4;
      }
      Set<Integer> free = new HashSet<>(), spare = new HashSet<>();
      for (int b = 0; b < benches.size(); b++) {
        for (int u = 0; u < benches.get(b)[2]; u++) {
          free.add(b * 100 + u);
          if (owner(b, u) == -1) spare.add(b * 100 + u);
        }
      }
      Map<Integer, Seat> last = year == 0 ? Map.of() : years.get(year - 1);
      for (int h : last.keySet()) if (!gone(h)) spare.removeAll(spots(last.get(h)));
      sat = new ArrayList<>();
      int stand = 0;
      for (int i = 0; i < rows[p].length; i++) {
        int v = (int) rows[p][i];
        int rank = v < 0 ? 0 : houses.get(v)[0], w = v < 0 ? -v : houses.get(v)[1], deaf = v < 0 ? 0 : houses.get(v)[2];
        int[] at = null;
        Seat own = v < 0 ? null : last.get(v);
        if (i < bell && own != null && own.width == w && free.containsAll(spots(own))) {
          at = new int[] {own.bench, own.unit};
        } else {
          Set<Integer> open = new HashSet<>(free);
          if (i < bell) open.retainAll(spare);
          at = bestRun(w, deaf, rank < low, open);
        }
        if (at == null) {
          stand++;
          sat.add(-1);
        } else {
          free.removeAll(spots(new Seat(at[0], at[1], w, false, 0)));
          sat.add(at[0] * 100 + at[1]);
        }
      }
      return stand;
    }
    int sat(int i) { return in(i, 0, sat.size() - 1) ? sat.get(i) : -1; }

    List<Integer> order() {
      List<Integer> out = new ArrayList<>();
      for (int h = 0; h < houses.size(); h++) if (!gone(h)) out.add(h);
      out.sort(Comparator.<Integer>comparingInt(h -> -houses.get(h)[0]).thenComparingInt(h -> h));
      return out;
    }
    Way ways(List<Integer> who, int k, int from, Set<Integer> open, Map<Integer, Way> memo) {
      if (k == who.size()) return new Way(0, List.of());
      Way known = memo.get(k * 10000 + from);
      if (known != null) return known;
      int[] h = houses.get(who.get(k));
      Way rest = ways(who, k + 1, from, open, memo);
      Way top = better(null, rest.sum, 99999, rest);
      for (int b = 0; b < benches.size(); b++) {
        if (benches.get(b)[3] == 1 && h[0] >= low) continue;
        for (int u = 0; u + h[1] <= benches.get(b)[2]; u++) {
          if (b * 100 + u < from) continue;
          boolean all = true;
          for (int i = u; i < u + h[1] && all; i++) all = open.contains(b * 100 + i);
          if (!all) continue;
          rest = ways(who, k + 1, b * 100 + u + h[1], open, memo);
          top = better(top, (long) runWorth(b, u, h[1], h[2]) * (h[0] + 1) + rest.sum, b * 100 + u, rest);
        }
      }
      memo.put(k * 10000 + from, top);
      return top;
    }
    Map<Integer, Seat> seating(boolean rightsToo) {
      Map<Integer, Set<Integer>> of = new HashMap<>();
      for (int b = 0; b < benches.size(); b++) {
        for (int u = 0; u < benches.get(b)[2]; u++) {
          of.computeIfAbsent(rightsToo ? owner(b, u) : -1, k -> new HashSet<>()).add(b * 100 + u);
        }
      }
      Map<Integer, Seat> out = new HashMap<>();
      List<Integer> others = new ArrayList<>();
      for (int h : order()) {
        int w = houses.get(h)[1], deaf = houses.get(h)[2];
        int[] at = bestRun(w, deaf, true, of.getOrDefault(h, Set.of()));
        if (at == null) others.add(h);
        else out.put(h, new Seat(at[0], at[1], w, true, runWorth(at[0], at[1], w, deaf)));
      }
      Way way = ways(others, 0, 0, of.getOrDefault(-1, Set.of()), new HashMap<>());
      for (int k = 0; k < others.size(); k++) {
        int pick = way.picks.get(k), h = others.get(k), w = houses.get(h)[1];
        if (pick == 99999) continue;
        out.put(h, new Seat(pick / 100, pick % 100, w, false, runWorth(pick / 100, pick % 100, w, houses.get(h)[2])));
      }
      return out;
    }
    int go() {
      if (year == 199) return -9;
      Map<Integer, Seat> now = seating(true);
      years.add(now);
      for (int h = 0; h < houses.size(); h++) {
        if (!now.containsKey(h) || year + 1 < use) continue;
        boolean all = true;
        for (int y = year; y > year - use; y--) {
          Seat s = years.get(y).get(h);
          all &= s != null && s.same(now.get(h));
          for (int u = 0; all && u < s.width; u++) all &= best(s.bench, s.unit + u, y, y, null) == null;
        }
        if (all && rights.size() < 100) {
          Seat s = now.get(h);
          add(2, h, s.bench, s.unit, s.width, year + 1, 199, year + 1);
        }
      }
      year++;
      return now.size();
    }
    int seat(int h, int y, int what) {
      if (!in(y, 0, year - 1) || !years.get(y).containsKey(h) || !in(what, 0, 4)) return -1;
      Seat s = years.get(y).get(h);
      return new int[] {s.bench, s.unit, s.width, s.byRight ? 1 : 0, s.worth}[what];
    }
    int moved(int a, int b) {
      if (!in(a, 0, year - 1) || !in(b, 0, year - 1)) return -2;
      int n = 0;
      for (int h : years.get(a).keySet()) {
        if (years.get(b).containsKey(h) && !years.get(a).get(h).same(years.get(b).get(h))) n++;
      }
      return n;
    }
    long beside(int what) {
      if (!in(what, 0, 5)) return -2;
      Map<Integer, Seat> s = seating(what < 3);
      long sum = 0;
      int units = 0;
      for (int h : s.keySet()) {
        sum += (long) s.get(h).worth * (houses.get(h)[0] + 1);
        units += s.get(h).width;
      }
      return what % 3 == 0 ? sum : what % 3 == 1 ? s.size() : units;
    }
    int householdOf(int h, int what) {
      if (!house(h) || !in(what, 0, 5)) return -2;
      if (what < 4) return houses.get(h)[what];
      int n = 0;
      if (what == 4) {
        for (Map<Integer, Seat> y : years) if (y.containsKey(h)) n++;
      } else {
        for (MRight r : rights) if (in(year, r.first, r.until()) && holder(r, year) == h) n++;
      }
      return n;
    }
    int benchOf(int b, int what) {
      if (!in(b, 0, benches.size() - 1) || !in(what, 0, 5)) return -2;
      if (what < 4) return benches.get(b)[what];
      int n = 0;
      for (int u = 0; u < benches.get(b)[2]; u++) if ((owner(b, u) == -1) == (what == 5)) n++;
      return n;
    }
    int count(int what) {
      int filled = 0, stay = 0;
      for (long[] r : rows) if (r != null) filled++;
      for (int[] h : houses) if (h[3] == 0) stay++;
      int[] all = {year, benches.size(), pillars.size(), houses.size(), rights.size(), lots.size(), sales, filled, stay};
      return in(what, 0, 8) ? all[what] : -1;
    }
    int row(int p, int w, int n) {
      if (!in(p, 0, 3) || !in(w, 0, 3) || n > 60) return -2;
      if (n < 0) return -3;
      rows[p] = new long[n];
      widths[p] = w;
      return 0;
    }
    boolean tear(int p) {
      if (!in(p, 0, 3) || rows[p] == null) return false;
      rows[p] = null;
      return true;
    }
    int write(int p, int i, long v) {
      if (!in(p, 0, 3)) return -2;
      if (rows[p] == null) return -5;
      if (!in(i, 0, rows[p].length - 1)) return -6;
      int spare = 64 - (8 << widths[p]);
      rows[p][i] = v << spare >> spare;
      return 0;
    }
    int paste(int p, int i, int to, int k, int n) {
      if (!in(p, 0, 3) || !in(to, 0, 3)) return -2;
      if (rows[p] == null || rows[to] == null) return -5;
      if (widths[p] != widths[to]) return -7;
      if (i < 0 || k < 0 || n < 0 || (long) i + n > rows[p].length || (long) k + n > rows[to].length) return -6;
      long[] were = Arrays.copyOfRange(rows[p], i, i + n);
      for (int j = 0; j < n; j++) rows[to][k + j] = were[j];
      return 0;
    }
  }

  // ---- the runs --------------------------------------------------------------------------------

  static final class Run {
    final int seed;
    final Random dice;
    final PewRank x = new PewRank();
    final Model m = new Model();
    final List<String> calls = new ArrayList<>();
    final boolean crowded;

    Run(int seed) {
      this.seed = seed;
      dice = new Random(seed);
      crowded = dice.nextInt(4) == 0;
    }

    /** Mostly from a to b, now and then just or far beyond. */
    int some(int a, int b) {
      int odd = dice.nextInt(60);
      if (odd == 0) return a - 1;
      if (odd == 1) return b + 1;
      if (odd == 2 && dice.nextInt(4) == 0) return dice.nextBoolean() ? Integer.MAX_VALUE : Integer.MIN_VALUE;
      return b <= a ? a : a + dice.nextInt(b - a + 1);
    }
    int aHouse() { return some(0, m.houses.size() - 1); }
    int aBench() { return some(0, m.benches.size() - 1); }
    int aUnit(int b) { return some(0, m.benches.size() > 0 && b >= 0 && b < m.benches.size() ? m.benches.get(b)[2] - 1 : 3); }
    int units(int b, int u) {
      return b >= 0 && b < m.benches.size() && u >= 0 && u < m.benches.get(b)[2] ? some(1, Math.min(12, m.benches.get(b)[2] - u)) : some(1, 4);
    }
    int aYear() { return dice.nextInt(3) == 0 ? some(0, 199) : some(Math.max(0, m.year - 4), Math.min(199, m.year + 3)); }
    int gap(int n) { return n == 0 ? 1 : n; }

    /** What an object answers behind its 512th call is free. */
    void due(String call, long got, long want) {
      calls.add(call + " = " + want);
      if (got != want && calls.size() <= 512) {
        wrong++;
        System.out.println("seed " + seed + ": " + call + " answered " + got + ", the model " + want);
        for (String c : calls.subList(Math.max(0, calls.size() - 12), calls.size())) System.out.println("    " + c);
      }
    }

    void play() {
      int benches = dice.nextInt(crowded ? 8 : 3) + 1;
      for (int i = 0; i < benches; i++) bench();
      if (dice.nextBoolean()) pulpit();
      int pillars = dice.nextInt(4);
      for (int i = 0; i < pillars; i++) pillar();
      int houses = dice.nextInt(crowded ? 12 : 6) + 1;
      for (int i = 0; i < houses; i++) household();
      if (dice.nextBoolean()) terms();
      boolean hasty = dice.nextInt(40) == 0;
      int n = hasty ? 380 : 60 + dice.nextInt(200);
      for (int i = 0; i < n && calls.size() < 512 && wrong == 0; i++) {
        if (hasty && dice.nextInt(8) > 2) {
          due("go()", x.go(), m.go());
        } else {
          any();
        }
      }
    }

    void bench() {
      int w = crowded ? dice.nextInt(5) == 0 ? some(30, 32) : some(4, 14) : some(4, 8);
      int a = some(0, 61 - Math.min(32, Math.max(4, w))), y = some(0, 60);
      boolean g = dice.nextInt(3) == 0;
      due("bench(" + a + ", " + y + ", " + w + ", " + g + ")", x.bench(a, y, w, g), m.bench(a, y, w, g));
    }
    void pulpit() {
      int a = some(0, 60), b = some(0, 60), c = dice.nextBoolean() ? some(1, 100000) : some(1, 3000);
      due("pulpit(" + a + ", " + b + ", " + c + ")", x.pulpit(a, b, c), m.pulpit(a, b, c));
    }
    void pillar() {
      int a = some(0, 60), b = some(0, 60), c = some(0, 5);
      due("pillar(" + a + ", " + b + ", " + c + ")", x.pillar(a, b, c), m.pillar(a, b, c));
    }
    void household() {
      int a = dice.nextBoolean() ? some(0, 99) : some(0, 12), b = dice.nextInt(3) == 0 ? some(1, 12) : some(1, 4), c = some(0, 9);
      due("household(" + a + ", " + b + ", " + c + ")", x.household(a, b, c), m.household(a, b, c));
    }
    void terms() {
      int a = dice.nextInt(4) == 0 ? some(2, 30) : some(2, 4), b = dice.nextBoolean() ? some(0, 100) : some(0, 12);
      due("terms(" + a + ", " + b + ")", x.terms(a, b), m.terms(a, b));
    }
    void changed() {
      int h = aHouse(), a = some(0, 99), b = some(1, 5), c = some(0, 9);
      due("changed(" + h + ", " + a + ", " + b + ", " + c + ")", x.changed(h, a, b, c), m.changed(h, a, b, c));
    }
    void gone() {
      int h = aHouse(), heir = dice.nextInt(3) == 0 ? -1 : aHouse();
      due("gone(" + h + ", " + heir + ")", x.gone(h, heir), m.gone(h, heir));
    }
    void sell() {
      int p = some(0, 7), h = dice.nextInt(5) == 0 ? -1 : aHouse();
      due("sell(" + p + ", " + h + ")", x.sell(p, h), m.sell(p, h));
    }
    void plotOf() {
      int p = some(0, 7), y = aYear();
      due("plotOf(" + p + ", " + y + ")", x.plotOf(p, y), m.plotOf(p, y));
    }
    void right() {
      int k = some(0, 3), h = k == 1 ? some(0, 7) : aHouse(), b = aBench(), u = aUnit(b), w = units(b, u);
      int s = aYear(), e = dice.nextInt(12) == 0 ? aYear() : some(Math.max(0, s), 199);
      boolean t = dice.nextBoolean();
      due("right(" + k + ", " + h + ", " + b + ", " + u + ", " + w + ", " + s + ", " + e + ", " + t + ")",
          x.right(k, h, b, u, w, s, e, t), m.right(k, h, b, u, w, s, e, t));
    }
    void ends() {
      int r = some(0, m.rights.size() - 1);
      due("ends(" + r + ")", x.ends(r) ? 1 : 0, m.ends(r) ? 1 : 0);
    }
    void rightOf() {
      int r = some(0, m.rights.size() - 1), w = some(0, 9);
      due("rightOf(" + r + ", " + w + ")", x.rightOf(r, w), m.rightOf(r, w));
    }
    void unit() {
      int b = aBench(), u = aUnit(b), w = some(0, 2);
      due("unit(" + b + ", " + u + ", " + w + ")", x.unit(b, u, w), m.unit(b, u, w));
    }
    void worth() {
      int h = aHouse(), b = aBench(), u = aUnit(b);
      due("worth(" + h + ", " + b + ", " + u + ")", x.worth(h, b, u), m.worth(h, b, u));
    }
    void belongs() {
      int b = aBench(), u = aUnit(b), y = aYear(), k = some(0, m.year), w = some(0, 1);
      due("belongs(" + b + ", " + u + ", " + y + ", " + k + ", " + w + ")", x.belongs(b, u, y, k, w), m.belongs(b, u, y, k, w));
    }
    void judge() {
      int a = aHouse(), c = aHouse(), b = aBench(), u = aUnit(b), y = aYear(), k = some(0, m.year);
      due("judge(" + a + ", " + c + ", " + b + ", " + u + ", " + y + ", " + k + ")", x.judge(a, c, b, u, y, k), m.judge(a, c, b, u, y, k));
    }
    void lot() {
      int b = aBench(), u = aUnit(b), w = units(b, u), y = some(1, 30);
      due("lot(" + b + ", " + u + ", " + w + ", " + y + ")", x.lot(b, u, w, y), m.lot(b, u, w, y));
    }
    void offers() {
      int p = some(0, 3), n = dice.nextInt(4) == 0 ? some(0, 12) : m.houses.size();
      row(p, some(0, 3), n);
      int most = dice.nextBoolean() ? 4 : 10000;
      for (int i = 0; i < n && i < 13; i++) if (dice.nextInt(4) > 0) write(p, i, some(0, most));
      int l = some(0, m.lots.size() - 1);
      due("offers(" + l + ", " + p + ")", x.offers(l, p), m.offers(l, p));
    }
    void sunday() {
      int p = some(0, 3), n = dice.nextInt(4) == 0 ? some(0, 60) : some(0, 8);
      row(p, some(0, 3), n);
      List<Integer> left = new ArrayList<>();
      for (int h = 0; h < m.houses.size(); h++) if (m.stays(h)) left.add(h);
      for (int i = 0; i < n && i < 61; i++) {
        boolean comes = !left.isEmpty() && dice.nextInt(3) > 0;
        int v = comes ? left.remove(dice.nextInt(left.size())) : -1 - dice.nextInt(4);
        if (dice.nextInt(200) == 0) v = some(-12, m.houses.size() - 1);
        write(p, i, v);
      }
      int bell = dice.nextInt(5) == 0 ? some(0, 60) : some(0, 8);
      due("sunday(" + p + ", " + bell + ")", x.sunday(p, bell), m.sunday(p, bell));
      for (int i = -1; i < Math.min(n, 61) + 1; i++) due("sat(" + i + ")", x.sat(i), m.sat(i));
    }
    void row(int p, int w, int n) {
      due("row(" + p + ", " + w + ", " + n + ")", x.row(p, w, n), m.row(p, w, n));
    }
    void write(int p, int i, long v) {
      due("write(" + p + ", " + i + ", " + v + ")", x.write(p, i, v), m.write(p, i, v));
    }
    void paste() {
      int p = some(0, 3), i = some(0, 5), to = some(0, 3), k = some(0, 5), n = some(0, 4);
      due("paste(" + p + ", " + i + ", " + to + ", " + k + ", " + n + ")", x.paste(p, i, to, k, n), m.paste(p, i, to, k, n));
    }
    void knock() {
      due("knock()", x.knock(), m.knock());
      for (int h = -1; h <= m.houses.size(); h++) {
        for (int w = 0; w < 4; w++) due("knocked(" + h + ", " + w + ")", x.knocked(h, w), m.knocked(h, w));
      }
      due("fund()", x.fund(), m.fund);
    }
    void change() {
      int set = dice.nextInt(1 << m.houses.size());
      if (dice.nextInt(3) == 0) set = (1 << m.houses.size()) - 1;
      if (dice.nextInt(40) == 0) set = dice.nextInt();
      due("change(" + set + ")", x.change(set), m.change(set));
      for (int h = -1; h <= m.houses.size(); h++) due("changedTo(" + h + ")", x.changedTo(h), m.changedTo(h));
    }
    void go() {
      due("go()", x.go(), m.go());
      for (int h = 0; h < m.houses.size(); h++) {
        for (int w = 0; w < 5; w++) {
          due("seat(" + h + ", " + (m.year - 1) + ", " + w + ")", x.seat(h, m.year - 1, w), m.seat(h, m.year - 1, w));
        }
      }
      due("count(4)", x.count(4), m.count(4));
    }
    void seat() {
      int h = aHouse(), y = some(0, m.year - 1), w = some(0, 4);
      due("seat(" + h + ", " + y + ", " + w + ")", x.seat(h, y, w), m.seat(h, y, w));
    }
    void moved() {
      int a = some(0, m.year - 1), b = some(0, m.year - 1);
      due("moved(" + a + ", " + b + ")", x.moved(a, b), m.moved(a, b));
    }
    void beside() {
      int w = some(0, 5);
      due("beside(" + w + ")", x.beside(w), m.beside(w));
    }
    void ask() {
      int h = aHouse(), w = some(0, 5), b = aBench(), c = some(0, 8);
      due("householdOf(" + h + ", " + w + ")", x.householdOf(h, w), m.householdOf(h, w));
      due("benchOf(" + b + ", " + w + ")", x.benchOf(b, w), m.benchOf(b, w));
      due("count(" + c + ")", x.count(c), m.count(c));
    }
    void tear() {
      int p = some(0, 3);
      due("tear(" + p + ")", x.tear(p) ? 1 : 0, m.tear(p) ? 1 : 0);
    }

    void any() {
      switch (dice.nextInt(40)) {
        case 0: pulpit(); break;
        case 1: terms(); break;
        case 2: if (dice.nextInt(3) == 0) pillar(); else bench(); break;
        case 3: household(); break;
        case 4: case 5: changed(); break;
        case 6: if (dice.nextInt(3) == 0) gone(); break;
        case 7: case 8: sell(); break;
        case 9: plotOf(); break;
        case 10: case 11: case 12: case 13: right(); break;
        case 14: ends(); break;
        case 15: rightOf(); break;
        case 16: unit(); break;
        case 17: worth(); break;
        case 18: case 19: case 20: belongs(); break;
        case 21: case 22: judge(); break;
        case 23: case 24: lot(); break;
        case 25: case 26: case 27: offers(); break;
        case 28: knock(); break;
        case 29: case 30: change(); break;
        case 31: case 32: sunday(); break;
        case 33: case 34: case 35: go(); break;
        case 36: if (dice.nextBoolean()) seat(); else moved(); break;
        case 37: beside(); break;
        case 38: ask(); break;
        default: if (dice.nextInt(4) == 0) tear(); else if (dice.nextBoolean()) paste(); else write(some(0, 3), some(0, 5), dice.nextLong()); break;
      }
    }
  }
}

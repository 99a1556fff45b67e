/** Terms I and II; a new object, pulpit, terms, pillar, bench, unit, worth, benchOf. */
final class ChurchCases extends Cases {
  ChurchCases(Document document) {
    super(document);
  }

  @Override
  void all() {
    points();
    lines();
    hearing();
    worths();
    newObject();
    pulpit();
    terms();
    pillar();
    bench();
    unit();
    worth();
    benchOf();
  }

  /** A unit at 20, 0 under a pulpit at 20, 20: the line goes straight up. */
  private static PewRank upright() {
    PewRank x = new PewRank();
    x.pulpit(20, 20, 1000);
    x.bench(20, 0, 4, false);
    return x;
  }

  /** A line from the left wall to a pulpit at x 20: how high it begins, and ends. */
  private static PewRank slant(int from, int to) {
    PewRank x = new PewRank();
    x.pulpit(20, to, 1000);
    x.bench(0, from, 4, false);
    return x;
  }

  /** A line from x 20 to a pulpit at the left wall: how high it begins, and ends. */
  private static PewRank slantBack(int from, int to) {
    PewRank x = new PewRank();
    x.pulpit(0, to, 1000);
    x.bench(20, from, 4, false);
    return x;
  }

  /** How many are in the way of unit 0, this pillar more. */
  private static int ways(PewRank x, int px, int py, int half) {
    x.pillar(px, py, half);
    return x.unit(0, 0, 1);
  }

  private void points() {
    in("I");
    test("THE CHURCH has points x, y, 0 to 60.", () -> {
      PewRank x = new PewRank();
      due("a pulpit in the far corner", x.pulpit(60, 60, 1000), 0);
      due("a bench up to it", x.bench(57, 60, 4, false), 0);
      int[] heard = {52, 71, 90, 100};
      for (int u = 0; u < 4; u++) due("heard " + u, x.unit(0, u, 0), heard[u]);
      due("a pillar in it", x.pillar(60, 60, 5), 0);
      due("a pulpit in the near corner", x.pulpit(0, 0, 1000), 0);
    });
    test("PILLARS 0 .., 8 at most", () -> {
      PewRank x = new PewRank();
      for (int p = 0; p < 8; p++) due("pillar " + p, x.pillar(p, p, 0), p);
      due("one more", x.pillar(9, 9, 0), -3);
    });
    test("squares, half to each side of a point, edges too", () -> {
      due("its right edge on the line", ways(upright(), 15, 10, 5), 1);
      due("one point short of it", ways(upright(), 14, 10, 5), 0);
      due("its left edge on the line", ways(upright(), 25, 10, 5), 1);
      due("one point past it", ways(upright(), 26, 10, 5), 0);
      due("half 0 is the point alone", ways(upright(), 20, 10, 0), 1);
      due("half 0 beside the line", ways(upright(), 21, 10, 0), 0);
    });
    test("edges too", () -> {
      // one corner lies on the line, then is a point off it: lines up and down, to the right and to the left
      int[][] fromToSquare = {{0, 20, 12, 8, 13}, {0, 20, 8, 12, 7}, {20, 0, 12, 12, 13}, {20, 0, 8, 8, 7}};
      for (int[] f : fromToSquare) {
        due("a corner at a line from " + f[0] + " to " + f[1], ways(slant(f[0], f[1]), f[2], f[3], 2), 1);
        due("a point off a line from " + f[0] + " to " + f[1], ways(slant(f[0], f[1]), f[4], f[3], 2), 0);
        due("a corner at a line back from " + f[1] + " to " + f[0], ways(slantBack(f[1], f[0]), f[2], f[3], 2), 1);
        due("a point off a line back from " + f[1] + " to " + f[0], ways(slantBack(f[1], f[0]), f[4], f[3], 2), 0);
      }
      due("a point right under a line to 20, 19", ways(slant(0, 19), 19, 18, 0), 0);
      due("a point right above it", ways(slant(0, 19), 1, 1, 0), 0);
      due("a point on a line to 20, 18", ways(slant(0, 18), 10, 9, 0), 1);
    });
    test("BENCHES 0 .., 8 at most", () -> {
      PewRank x = new PewRank();
      for (int b = 0; b < 8; b++) due("bench " + b, x.bench(0, 0, 4, false), b);
      due("one more", x.bench(0, 0, 4, false), -3);
    });
    test("UNIT u at x + u, y.", () -> {
      PewRank x = new PewRank();
      x.bench(28, 17, 32, false);
      x.pulpit(28, 17, 1000);
      due("the first", x.unit(0, 0, 0), 100);
      x.pulpit(59, 17, 1000);
      due("the last", x.unit(0, 31, 0), 100);
      x.pulpit(59, 18, 1000);
      due("a point above the last", x.unit(0, 31, 0), 90);
    });
  }

  private void lines() {
    test("the straight line from that to the PULPIT, ends too, meets it", () -> {
      due("at the unit", ways(upright(), 20, 0, 0), 1);
      due("at the pulpit", ways(upright(), 20, 20, 0), 1);
      due("a point behind the pulpit", ways(upright(), 20, 21, 0), 0);
      due("an edge at the pulpit", ways(upright(), 20, 25, 5), 1);
      due("an edge one point behind it", ways(upright(), 20, 26, 5), 0);
      due("a corner at the pulpit", ways(upright(), 25, 25, 5), 1);
      PewRank high = new PewRank();
      high.pulpit(20, 20, 1000);
      high.bench(20, 10, 4, false);
      due("an edge at the unit", ways(high, 20, 5, 5), 1);
      due("a point behind the unit", ways(high, 20, 9, 0), 1);
      due("an edge one point behind the unit", ways(high, 20, 4, 5), 1);
      // the unit is the pulpit: the line is a point
      PewRank same = new PewRank();
      same.pulpit(20, 20, 1000);
      same.bench(20, 20, 4, false);
      due("a point beside both", ways(same, 19, 20, 0), 0);
      due("a corner at both", ways(same, 25, 25, 5), 1);
    });
    test("A UNIT SEES if none is.", () -> {
      PewRank x = upright();
      due("none", x.unit(0, 0, 2), 1);
      x.pillar(20, 20, 0);
      due("one", x.unit(0, 0, 2), 0);
      x.pillar(20, 20, 0);
      due("two", x.unit(0, 0, 2), 0);
    });
  }

  private void hearing() {
    test("LOUD / (10 + d) (cut), d being the squares of both differences to the PULPIT together", () -> {
      int[][] loudHeard = {{1, 0}, {7209, 0}, {7210, 1}, {14419, 1}, {14420, 2}, {100000, 13}};
      for (int[] lh : loudHeard) {
        PewRank x = new PewRank();
        x.pulpit(60, 60, lh[0]);
        x.bench(0, 0, 4, false);
        due("from corner to corner with LOUD " + lh[0], x.unit(0, 0, 0), lh[1]);
      }
      PewRank near = new PewRank();
      near.pulpit(0, 0, 9);
      near.bench(0, 0, 4, false);
      due("at the pulpit, LOUD 9", near.unit(0, 0, 0), 0);
      near.pulpit(0, 0, 10);
      due("at the pulpit, LOUD 10", near.unit(0, 0, 0), 1);
    });
    test("that by 2 (cut) for each PILLAR in its way", () -> {
      PewRank x = new PewRank();
      x.pulpit(0, 0, 100000);
      x.bench(0, 0, 4, false);
      int[] halved = {10000, 5000, 2500, 1250, 625, 312, 156, 78, 39};
      for (int p = 0; p < 9; p++) {
        due("pillars " + p, x.unit(0, 0, 0), halved[p]);
        x.pillar(0, 0, 0);
      }
    });
    test("of a gallery three quarters of that (cut)", () -> {
      PewRank x = new PewRank();
      x.pulpit(0, 0, 110);
      x.bench(0, 0, 4, true);
      x.bench(0, 0, 4, false);
      due("three quarters of 11", x.unit(0, 0, 0), 8);
      due("not of a gallery", x.unit(1, 0, 0), 11);
      x.pillar(0, 0, 0);
      due("three quarters of a half, cut twice", x.unit(0, 0, 0), 3);
      x.pulpit(0, 0, 10);
      due("of nothing", x.unit(0, 0, 0), 0);
    });
  }

  private void worths() {
    in("II");
    test("HOUSEHOLDS 0 .., 12 at most", () -> {
      PewRank x = new PewRank();
      for (int h = 0; h < 12; h++) due("household " + h, x.household(0, 1, 0), h);
      due("one more", x.household(0, 1, 0), -3);
    });
    test("A RUN: UNITS side by side of a BENCH.", () -> {
      // two benches that touch one another: the second goes on where the first ends
      PewRank x = new PewRank();
      x.bench(0, 0, 4, false);
      x.bench(4, 0, 4, false);
      x.household(0, 2, 0);
      due("the last two of a bench", x.worth(0, 0, 2) > 0, true);
      due("one of each", x.worth(0, 0, 3), -2);
    });
    test("HEARING of its UNITS together, DEAF times the greatest of these, and one for each that SEES", () -> {
      PewRank x = new PewRank();
      x.pulpit(2, 0, 1000);
      x.bench(0, 0, 5, false);
      // heard are 71, 90, 100, 90, 71
      x.household(0, 5, 9);
      x.household(0, 5, 0);
      x.household(0, 1, 1);
      due("the greatest in the middle", x.worth(0, 0, 0), 422 + 900 + 5);
      due("none deaf", x.worth(1, 0, 0), 422 + 5);
      due("one alone", x.worth(2, 0, 4), 71 + 71 + 1);
      x.pillar(0, 0, 0);
      due("one sees no more", x.worth(1, 0, 0), 422 - 71 + 35 + 4);
      x.pillar(2, 0, 0);
      due("none sees", x.worth(0, 0, 0), 17 + 45 + 50 + 45 + 35 + 9 * 50);
      x.pulpit(60, 60, 1);
      due("nothing is heard, three see", x.worth(0, 0, 0), 3);
    });
  }

  private void newObject() {
    in("Promise 1");
    test("No BENCHES, PILLARS, HOUSEHOLDS, RIGHTS", () -> {
      PewRank x = new PewRank();
      for (int what = 1; what <= 4; what++) due("count " + what, x.count(what), 0);
      due("unit", x.unit(0, 0, 0), -2);
      due("householdOf", x.householdOf(0, 0), -2);
      due("rightOf", x.rightOf(0, 0), -2);
      due("benchOf", x.benchOf(0, 0), -2);
      due("beside", x.beside(0) + x.beside(1) + x.beside(2), 0);
    });
    test("YEAR 0", () -> {
      PewRank x = new PewRank();
      due("count", x.count(0), 0);
      due("seat", x.seat(0, 0, 0), -1);
      due("moved", x.moved(0, 0), -2);
    });
    test("PULPIT 30, 60, LOUD 4000", () -> {
      PewRank x = new PewRank();
      x.bench(30, 60, 4, false);
      x.bench(30, 59, 4, false);
      due("at it", x.unit(0, 0, 0), 400);
      due("beside it", x.unit(0, 1, 0), 363);
      due("below it", x.unit(1, 0, 0), 363);
      due("across", x.unit(1, 1, 0), 333);
    });
    test("USE 3", () -> {
      PewRank x = years(with(flat(4), 2), 2);
      due("two years", x.count(4), 0);
      x.go();
      due("three", x.count(4), 1);
    });
    test("LOW 10", () -> {
      PewRank x = new PewRank();
      x.bench(0, 0, 4, true);
      x.household(10, 1, 0);
      due("RANK 10 in a gallery", x.beside(1), 0);
      x.household(9, 1, 0);
      due("RANK 9", x.beside(1), 1);
    });
    test("PLOTS are nobody's", () -> {
      PewRank x = new PewRank();
      for (int plot = 0; plot < 8; plot++) {
        due("the first year of " + plot, x.plotOf(plot, 0), -1);
        due("the last year of " + plot, x.plotOf(plot, 199), -1);
      }
    });
    test("PLACES have nothing", () -> {
      PewRank x = new PewRank();
      for (int place = 0; place < 4; place++) {
        due("write " + place, x.write(place, 0, 0), -5);
        due("sunday " + place, x.sunday(place, 0), -5);
        due("tear " + place, x.tear(place), false);
      }
      due("count", x.count(7), 0);
    });
  }

  private void pulpit() {
    in("Promise 2");
    test("The PULPIT stands there, LOUD (1 .. 100000): 0.", () -> {
      range(1, 100000, 0, -2, v -> new PewRank().pulpit(0, 0, v));
      PewRank x = new PewRank();
      x.bench(0, 0, 4, false);
      x.go();
      due("also when a YEAR has gone", x.pulpit(0, 0, 100000), 0);
      due("there", x.unit(0, 0, 0), 10000);
    });
    test("-2: x, y are not 0 .. 60", () -> {
      range(0, 60, 0, -2, v -> new PewRank().pulpit(v, 0, 1));
      range(0, 60, 0, -2, v -> new PewRank().pulpit(0, v, 1));
      refused("x is 61", Cases::furnished, -2, x -> x.pulpit(61, 0, 1));
      refused("y is -1", Cases::furnished, -2, x -> x.pulpit(0, -1, 1));
    });
    test("LOUD not as told", () -> {
      refused("LOUD 0", Cases::furnished, -2, x -> x.pulpit(0, 0, 0));
      refused("LOUD 100001", Cases::furnished, -2, x -> x.pulpit(0, 0, 100001));
    });
  }

  private void terms() {
    in("Promise 3");
    test("USE (2 .. 30)", () -> {
      range(2, 30, 0, -2, v -> new PewRank().terms(v, 10));
      PewRank least = with(flat(4), 2);
      least.terms(2, 10);
      years(least, 1);
      due("USE 2, one year", least.count(4), 0);
      years(least, 1);
      due("USE 2, two years", least.count(4), 1);
      PewRank most = with(flat(4), 2);
      most.terms(30, 10);
      years(most, 29);
      due("USE 30, 29 years", most.count(4), 0);
      years(most, 1);
      due("USE 30, 30 years", most.count(4), 1);
    });
    test("LOW (0 .. 100): 0.", () -> {
      range(0, 100, 0, -2, v -> new PewRank().terms(3, v));
      PewRank x = new PewRank();
      x.bench(0, 0, 4, true);
      x.household(0, 1, 0);
      x.household(99, 1, 0);
      x.terms(3, 100);
      due("LOW 100: a gallery is for all", x.beside(1), 2);
      x.terms(3, 99);
      due("LOW 99: not for RANK 99", x.beside(1), 1);
      x.terms(3, 0);
      due("LOW 0: for nobody", x.beside(1), 0);
    });
    test("-2: they are not as told.", () -> {
      refused("USE 1", Cases::furnished, -2, x -> x.terms(1, 100));
      refused("USE 31", Cases::furnished, -2, x -> x.terms(31, 100));
      refused("LOW -1", Cases::furnished, -2, x -> x.terms(2, -1));
      refused("LOW 101", Cases::furnished, -2, x -> x.terms(2, 101));
    });
  }

  /** Eight of the longest benches, twelve households. */
  private static PewRank fullChurch() {
    return with(flat(32, 32, 32, 32, 32, 32, 32, 32), 12, 12, 12, 12, 12, 12, 12, 12, 12, 12, 12, 12);
  }

  private static PewRank eightPillars() {
    PewRank x = with(flat(8, 4), 2, 1);
    for (int p = 0; p < 8; p++) x.pillar(3, p, 0);
    return x;
  }

  private void pillar() {
    in("Promise 4");
    test("A PILLAR more: its number.", () -> {
      PewRank x = new PewRank();
      due("the first", x.pillar(0, 0, 0), 0);
      due("on the same point", x.pillar(0, 0, 0), 1);
      x.go();
      due("when a YEAR has gone", x.pillar(60, 60, 5), 2);
    });
    test("-2: x, y are not 0 .. 60, half not 0 .. 5", () -> {
      range(0, 60, 0, -2, v -> new PewRank().pillar(v, 0, 0));
      range(0, 60, 0, -2, v -> new PewRank().pillar(0, v, 0));
      range(0, 5, 0, -2, v -> new PewRank().pillar(0, 0, v));
      refused("half 6", Cases::furnished, -2, x -> x.pillar(5, 4, 6));
      refused("x 61", Cases::furnished, -2, x -> x.pillar(61, 4, 0));
    });
    test("-3: there are 8.", () -> {
      refused("a ninth", ChurchCases::eightPillars, -3, x -> x.pillar(0, 0, 5));
      refused("a ninth that is not as told", ChurchCases::eightPillars, -2, x -> x.pillar(0, 0, 6));
    });
  }

  private static PewRank eightBenches() {
    return with(flat(4, 4, 4, 4, 4, 4, 4, 4), 2, 1);
  }

  private void bench() {
    in("Promise 5");
    test("A BENCH more, from there to the right: its number.", () -> {
      PewRank x = new PewRank();
      due("the first", x.bench(0, 0, 4, false), 0);
      due("on the same points", x.bench(0, 0, 4, true), 1);
      x.pulpit(3, 0, 1000);
      due("to the right", x.unit(0, 3, 0), 100);
    });
    test("-2: y is not 0 .. 60", () -> range(0, 60, 0, -2, v -> new PewRank().bench(0, v, 4, false)));
    test("UNITS are not 4 .. 32", () -> range(4, 32, 0, -2, v -> new PewRank().bench(0, 0, v, false)));
    test("x, or x and UNITS less 1, not 0 .. 60", () -> {
      range(0, 57, 0, -2, v -> new PewRank().bench(v, 0, 4, false));
      range(0, 29, 0, -2, v -> new PewRank().bench(v, 0, 32, false));
      due("a bench that ends in the church, but begins ahead of it", new PewRank().bench(-1, 0, 4, false), -2);
      due("x at the last point", new PewRank().bench(60, 0, 4, false), -2);
      refused("a bench that is not as told", () -> with(flat(8), 2), -2, x -> x.bench(58, 0, 4, true));
    });
    test("-3: there are 8", () -> {
      refused("a ninth", ChurchCases::eightBenches, -3, x -> x.bench(0, 0, 32, false));
      refused("a ninth that is not as told", ChurchCases::eightBenches, -2, x -> x.bench(0, 0, 33, false));
      refused("a ninth, and a YEAR has gone", () -> years(eightBenches(), 1), -3, x -> x.bench(0, 0, 4, false));
    });
    test("-9: a YEAR has gone.", () -> {
      refused("after a YEAR", Cases::furnished, -9, x -> x.bench(0, 0, 4, false));
      refused("after a YEAR, not as told", Cases::furnished, -2, x -> x.bench(0, 0, 3, false));
      due("after a YEAR without any bench", years(new PewRank(), 1).bench(0, 0, 4, false), -9);
    });
  }

  private void unit() {
    in("Promise 14");
    test("HEARING of a UNIT of a BENCH (what 0)", () -> {
      PewRank x = sloped(32);
      due("the first", x.unit(0, 0, 0), 100);
      due("the last", x.unit(0, 31, 0), 1000 / 971);
    });
    test("how many PILLARS are in its way (1)", () -> {
      PewRank x = sloped(4);
      due("none", x.unit(0, 0, 1), 0);
      for (int p = 0; p < 8; p++) x.pillar(0, 0, 5);
      due("all eight", x.unit(0, 3, 1), 8);
    });
    test("whether it SEES (2: 1, 0)", () -> {
      PewRank x = sloped(4);
      x.pillar(2, 0, 0);
      int[] sees = {1, 1, 0, 0};
      for (int u = 0; u < 4; u++) due("unit " + u, x.unit(0, u, 2), sees[u]);
    });
    test("-2 for others.", () -> {
      range(0, 2, 0, -2, v -> Math.min(0, furnished().unit(0, 0, v)));
      range(0, 1, 0, -2, v -> Math.min(0, furnished().unit(v, 0, 0)));
      range(0, 7, 0, -2, v -> Math.min(0, furnished().unit(0, v, 0)));
      range(0, 5, 0, -2, v -> Math.min(0, furnished().unit(1, v, 0)));
      range(0, 7, 0, -2, v -> Math.min(0, fullChurch().unit(v, 31, 0)));
      range(0, 31, 0, -2, v -> Math.min(0, fullChurch().unit(7, v, 0)));
    });
  }

  private void worth() {
    in("Promise 15");
    test("WORTH of the RUN from a UNIT on for a HOUSEHOLD", () -> {
      PewRank x = with(sloped(12), 1, 12);
      due("the widest on all of the bench", x.worth(1, 0, 0), 100 + 90 + 71 + 52 + 38 + 28 + 21 + 16 + 13 + 10 + 9 + 7 + 12);
      due("the narrowest at its end", x.worth(0, 0, 11), 7 + 1);
      x.changed(1, 0, 1, 9);
      due("as it is now", x.worth(1, 0, 11), 7 + 63 + 1);
      x.gone(1, -1);
      due("also of one that is GONE", x.worth(1, 0, 11), 7 + 63 + 1);
    });
    test("-2: there are none such", () -> {
      range(0, 3, 0, -2, v -> Math.min(0, furnished().worth(v, 0, 0)));
      range(0, 1, 0, -2, v -> Math.min(0, furnished().worth(0, v, 0)));
    });
    test("or the RUN goes beyond the BENCH", () -> {
      range(0, 6, 0, -2, v -> Math.min(0, furnished().worth(0, 0, v)));
      range(0, 7, 0, -2, v -> Math.min(0, furnished().worth(2, 0, v)));
      range(0, 20, 0, -2, v -> Math.min(0, fullChurch().worth(11, 7, v)));
      range(0, 11, 0, -2, v -> Math.min(0, fullChurch().worth(v, 7, 20)));
      PewRank x = with(sloped(11), 12);
      due("a household that is wider than the bench", x.worth(0, 0, 0), -2);
    });
  }

  private void benchOf() {
    in("Promise 31");
    test("0 x, 1 y, 2 UNITS, 3 whether it is a gallery (1, 0)", () -> {
      PewRank x = new PewRank();
      x.bench(29, 60, 32, true);
      x.bench(0, 0, 4, false);
      int[] first = {29, 60, 32, 1};
      int[] second = {0, 0, 4, 0};
      for (int what = 0; what < 4; what++) {
        due("of the first " + what, x.benchOf(0, what), first[what]);
        due("of the second " + what, x.benchOf(1, what), second[what]);
      }
    });
    test("4 UNITS that belong to somebody in this YEAR, 5 to nobody", () -> {
      PewRank x = with(flat(8, 8), 1);
      due("none is somebody's", x.benchOf(0, 4) * 10 + x.benchOf(0, 5), 8);
      x.right(0, 0, 0, 0, 3, 0, 0, false);
      x.right(2, 0, 0, 2, 2, 0, 199, false);
      due("two rights to one unit count once", x.benchOf(0, 4) * 10 + x.benchOf(0, 5), 44);
      x.right(1, 0, 0, 4, 4, 0, 199, false);
      due("land of nobody's plot", x.benchOf(0, 4), 4);
      x.sell(0, 0);
      due("all are somebody's", x.benchOf(0, 4) * 10 + x.benchOf(0, 5), 80);
      due("the other bench", x.benchOf(1, 4) * 10 + x.benchOf(1, 5), 8);
      x.go();
      due("in the next YEAR one right is over", x.benchOf(0, 4) * 10 + x.benchOf(0, 5), 62);
      years(x, 198);
      due("in the last YEAR", x.benchOf(0, 4) * 10 + x.benchOf(0, 5), 62);
      PewRank full = fullChurch();
      full.right(0, 11, 7, 0, 32, 0, 199, false);
      due("all of the last BENCH", full.benchOf(7, 4) * 100 + full.benchOf(7, 5), 3200);
      due("none of the one ahead of it", full.benchOf(6, 4) * 100 + full.benchOf(6, 5), 32);
    });
    test("-2 for others.", () -> {
      range(0, 1, 0, -2, v -> Math.min(0, furnished().benchOf(v, 0)));
      range(0, 5, 0, -2, v -> Math.min(0, furnished().benchOf(0, v)));
      range(0, 7, 0, -2, v -> Math.min(0, fullChurch().benchOf(v, 4)));
      due("ahead of any bench", new PewRank().benchOf(0, 2), -2);
    });
  }
}

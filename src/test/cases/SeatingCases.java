/** Term IV; go, seat, moved, beside, count. */
final class SeatingCases extends Cases {
  SeatingCases(Document document) {
    super(document);
  }

  @Override
  void all() {
    byRights();
    byRank();
    bestWays();
    useOfYears();
    useOfNobodys();
    customsAtTheEnd();
    go();
    seat();
    moved();
    beside();
    besideNobodys();
    count();
  }

  /** 100 times the bench and the first unit; -1: it did not sit. */
  private static int at(PewRank x, int h, int year) {
    int bench = x.seat(h, year, 0);
    return bench < 0 ? -1 : bench * 100 + x.seat(h, year, 1);
  }

  private void sat(PewRank x, int year, int... spots) {
    for (int h = 0; h < spots.length; h++) due("where " + h + " sat in " + year, at(x, h, year), spots[h]);
  }

  private void byRights() {
    in("IV");
    test("on the RUN of its WIDTH of UNITS all of which belong to it", () -> {
      PewRank exact = with(flat(8), 3);
      exact.right(0, 0, 0, 4, 3, 0, 199, false);
      exact.go();
      due("as many as its WIDTH", at(exact, 0, 0) * 10 + exact.seat(0, 0, 3), 41);
      PewRank less = with(flat(8), 3);
      less.right(0, 0, 0, 4, 2, 0, 199, false);
      less.go();
      due("one less: by rank, on what is nobody's", at(less, 0, 0) * 10 + less.seat(0, 0, 3), 0);
      PewRank joined = with(flat(8), 4);
      joined.right(0, 0, 0, 2, 2, 0, 199, false);
      joined.right(2, 0, 0, 4, 2, 0, 199, false);
      joined.go();
      due("by two RIGHTS side by side", at(joined, 0, 0) * 10 + joined.seat(0, 0, 3), 21);
      PewRank torn = with(flat(8), 3, 1);
      torn.right(2, 0, 0, 0, 5, 0, 199, false);
      torn.right(0, 1, 0, 2, 1, 0, 199, false);
      torn.go();
      sat(torn, 0, 5, 2);
      due("another's better RIGHT in the middle", torn.seat(0, 0, 3), 0);
    });
    test("of the greatest WORTH, then of the least BENCH, then UNIT. Then by rank", () -> {
      PewRank worth = new PewRank();
      worth.pulpit(7, 1, 1000);
      worth.bench(0, 0, 8, false);
      worth.bench(0, 1, 8, false);
      worth.household(0, 2, 0);
      worth.right(0, 0, 0, 0, 8, 0, 199, false);
      worth.right(0, 0, 1, 0, 8, 0, 199, false);
      worth.go();
      due("the greatest WORTH, though on the last BENCH and UNIT", at(worth, 0, 0), 106);
      PewRank alike = with(flat(8, 8), 2);
      alike.right(0, 0, 1, 0, 8, 0, 199, false);
      alike.right(0, 0, 0, 6, 2, 0, 199, false);
      alike.right(0, 0, 0, 3, 2, 0, 199, false);
      alike.go();
      due("alike: the least BENCH, then UNIT", at(alike, 0, 0), 3);
    });
    test("HOUSEHOLDS that are not GONE, the greatest RANK first, then the least number", () -> {
      PewRank x = flat(4);
      int[] ranks = {0, 5, 99, 5};
      for (int rank : ranks) x.household(rank, 1, 0);
      x.go();
      sat(x, 0, 3, 1, 0, 2);
      x.gone(2, -1);
      x.go();
      sat(x, 1, 2, 0, -1, 1);
    });
  }

  private void byRank() {
    test("all UNITS that belong to nobody, by BENCHES, then UNITS, are gone along", () -> {
      PewRank x = with(flat(4, 4), 1, 2, 2, 12);
      x.right(0, 3, 0, 1, 1, 0, 199, false);
      x.go();
      sat(x, 0, 0, 2, 100, -1);
    });
    test("each gets a RUN of them behind that of the one ahead of it that got one, or none", () -> {
      // the first of them is best heard at the end of the bench: who comes behind it has nothing left
      PewRank x = new PewRank();
      x.pulpit(3, 0, 1000);
      x.bench(0, 0, 4, false);
      x.household(9, 2, 0);
      x.household(0, 2, 0);
      due("the first alone", x.go(), 1);
      sat(x, 0, 2, -1);
      // who got none is not in the way of those behind it
      PewRank wide = with(flat(4), 2, 5, 2);
      due("all but the one that is too wide", wide.go(), 2);
      sat(wide, 0, 0, -1, 2);
    });
    test("nobody of a RANK of LOW or more gets one in a gallery", () -> {
      PewRank x = new PewRank();
      x.bench(0, 0, 4, true);
      x.terms(3, 50);
      x.household(50, 1, 0);
      x.household(49, 1, 0);
      x.household(99, 1, 0);
      due("below LOW alone", x.go(), 1);
      sat(x, 0, -1, 0, -1);
      x.right(0, 0, 0, 3, 1, 0, 199, false);
      due("but by a RIGHT", x.go(), 2);
      sat(x, 1, 3, 0, -1);
    });
  }

  private void bestWays() {
    test("Of all such ways that of the greatest sum of WORTH times (RANK and 1)", () -> {
      PewRank x = sloped(4);
      x.household(1, 3, 0);
      x.household(0, 1, 0);
      due("264 times 2 and 53", x.beside(0), 264 * 2 + 53);
      // heard are 52, 71, 90, 100: the one ahead leaves the best to the other, if that makes for more
      PewRank y = new PewRank();
      y.pulpit(3, 0, 1000);
      y.bench(0, 0, 4, false);
      y.household(1, 1, 0);
      y.household(0, 3, 0);
      // at the left 53 times 2, and 264 behind it; at the right 101 times 2 alone
      y.go();
      sat(y, 0, 0, 1);
      y.changed(0, 6, 1, 0);
      // 53 times 7 and 264 is 635, 101 times 7 is 707
      y.go();
      sat(y, 1, 3, -1);
      // the first and the last unit alone are nobody's, and the first sees nothing: the last is worth one more
      PewRank ends = with(flat(32), 12, 1, 2);
      ends.right(0, 0, 0, 1, 30, 0, 199, false);
      ends.pillar(0, 0, 0);
      ends.go();
      sat(ends, 0, 1, 31, -1);
    });
    test("of several: the first HOUSEHOLD on the least BENCH, then UNIT, that can be (none behind all), then the next one, ..", () -> {
      // nothing is heard and nobody sees: all ways are worth 0
      PewRank x = with(flat(4, 4), 3, 2, 2, 3);
      x.pillar(60, 60, 0);
      due("worth", x.beside(0), 0);
      due("those ahead, each on the least", x.go(), 3);
      sat(x, 0, 0, 100, 102, -1);
      PewRank first = with(flat(4), 3, 2, 2);
      first.pillar(60, 60, 0);
      due("the first, though two could without it", first.go(), 1);
      sat(first, 0, 0, -1, -1);
    });
    test("All worth of a SEATING: the sum of WORTH times (RANK and 1) over all who sit.", () -> {
      PewRank x = sloped(4);
      x.household(0, 1, 0);
      x.household(99, 1, 9);
      x.household(98, 12, 0);
      // 99 hears 100, ten times, and sees; 0 hears 90
      due("RANK 0 counts once, who does not sit not at all", x.beside(0), 1001 * 100 + 91);
    });
  }

  private void useOfYears() {
    test("in each of the USE YEARS that went by latest (with this one) on the same RUN", () -> {
      PewRank x = with(flat(8), 2);
      years(x, 2);
      due("one YEAR less", x.count(4), 0);
      x.go();
      due("with this one", x.count(4), 1);
      PewRank gap = with(flat(4), 4, 4);
      years(gap, 2);
      gap.changed(1, 1, 4, 0);
      gap.go();
      gap.changed(1, 0, 4, 0);
      years(gap, 2);
      due("a YEAR between in which the other sat", gap.count(4), 0);
      gap.go();
      due("three YEARS again", gap.count(4) * 10 + gap.rightOf(0, 1), 10);
      PewRank run = with(flat(8), 2);
      years(run, 2);
      run.changed(0, 0, 3, 0);
      years(run, 2);
      due("another WIDTH is another RUN", run.count(4), 0);
      run.go();
      due("three YEARS on that", run.count(4) * 10 + run.rightOf(0, 4), 13);
      PewRank longer = with(flat(8), 2);
      longer.terms(5, 10);
      years(longer, 3);
      longer.terms(4, 10);
      longer.go();
      due("USE as it is when the YEAR goes by", longer.count(4), 1);
    });
  }

  private void useOfNobodys() {
    test("that belonged to nobody (all UNITS, in all these YEARS, as was known then)", () -> {
      PewRank own = with(flat(4), 4);
      own.right(0, 0, 0, 0, 4, 0, 0, false);
      years(own, 3);
      due("its own in the first of them", own.count(4), 1);
      own.go();
      due("nobody's in three", own.count(4), 2);
      PewRank last = with(flat(4), 4);
      years(last, 2);
      last.right(0, 0, 0, 3, 1, 2, 2, false);
      last.right(0, 0, 0, 0, 3, 2, 2, false);
      last.go();
      due("its own in the last of them", last.count(4) * 10 + last.seat(0, 2, 3), 21);
      PewRank later = with(flat(4), 4, 12);
      years(later, 2);
      later.right(0, 1, 0, 0, 1, 0, 1, false);
      later.go();
      due("what came to be known later is not held against it", later.count(4), 2);
      PewRank ended = with(flat(4), 2, 12);
      ended.right(0, 1, 0, 0, 1, 0, 199, false);
      ended.ends(0);
      years(ended, 3);
      due("what had ended by then is nobody's", ended.count(4) * 10 + at(ended, 0, 2), 20);
      PewRank land = with(flat(4), 4);
      land.right(1, 0, 0, 0, 4, 0, 199, false);
      years(land, 3);
      due("land of a PLOT that is nobody's is nobody's", land.count(4), 2);
    });
    test("has a RIGHT of custom to it, not to heirs, known from the next YEAR on, since then, until 199", () -> {
      PewRank x = with(flat(4, 8), 5, 1);
      years(x, 3);
      int[] custom = {2, 0, 1, 0, 5, 3, 199, 3, 0, 0};
      for (int what = 0; what < 10; what++) due("of the RIGHT " + what, x.rightOf(0, what), custom[what]);
      due("not known in the YEAR ahead", x.belongs(1, 0, 3, 2, 0), -1);
      due("not for it", x.belongs(1, 0, 2, 3, 0), -1);
      due("from the next on", x.belongs(1, 4, 3, 3, 0), 0);
      due("until 199", x.belongs(1, 4, 199, 3, 0), 0);
      due("to its RUN alone", x.belongs(1, 5, 3, 3, 0), 1);
      due("not to heirs", x.gone(0, 1), 0);
    });
  }

  private void customsAtTheEnd() {
    test("if there are numbers left; HOUSEHOLDS by numbers", () -> {
      PewRank two = flat(8);
      two.household(0, 2, 0);
      two.household(9, 2, 0);
      two.household(5, 2, 0);
      for (int r = 0; r < 98; r++) two.right(1, 0, 0, 0, 1, 0, 199, false);
      due("three sit", years(two, 2).go(), 3);
      due("two have numbers", two.count(4), 100);
      due("0 and 1, whatever their RANK", two.rightOf(98, 1) * 10 + two.rightOf(99, 1), 1);
      due("none is left", years(two, 2).count(4), 100);
    });
    test("not behind YEAR 198", () -> {
      PewRank x = with(flat(4), 4);
      x.right(0, 0, 0, 0, 4, 0, 195, false);
      years(x, 198);
      due("YEARS 196 and 197", x.count(4), 1);
      due("YEAR 198 goes by", x.go(), 1);
      due("a RIGHT", x.count(4), 2);
      due("since 199 until 199", x.rightOf(1, 5) * 1000 + x.rightOf(1, 6), 199199);
      due("none behind it", x.go(), -9);
      due("none more", x.count(4), 2);
    });
    test("Then the YEAR is one more.", () -> {
      PewRank x = new PewRank();
      for (int y = 0; y < 199; y++) {
        due("YEAR", x.count(0), y);
        x.go();
      }
      due("the last", x.count(0), 199);
    });
  }

  private static PewRank lastYear() {
    return years(with(flat(4), 2, 4), 199);
  }

  private void go() {
    in("Promise 26");
    test("The YEAR goes by (IV): how many HOUSEHOLDS sat.", () -> {
      due("no HOUSEHOLDS", flat(4).go(), 0);
      due("no BENCHES", with(new PewRank(), 1).go(), 0);
      due("one too wide", with(flat(4), 5).go(), 0);
      due("as wide as the BENCH", with(flat(4), 4).go(), 1);
      due("the widest", with(flat(12), 12).go(), 1);
      PewRank end = with(flat(4, 32), 1);
      end.pulpit(31, 1, 1000);
      end.go();
      due("on the last UNIT of the longest BENCH", at(end, 0, 0), 131);
      due("all twelve", with(flat(12), 1, 1, 1, 1, 1, 1, 1, 1, 1, 1, 1, 1).go(), 12);
      PewRank gone = with(flat(4), 1, 1);
      gone.gone(0, -1);
      due("who is GONE does not", gone.go(), 1);
    });
    test("-9: 199 it is.", () -> {
      PewRank x = lastYear();
      due("199", x.count(0), 199);
      refused("no more", SeatingCases::lastYear, -9, PewRank::go);
      due("nobody has sat in it", x.seat(0, 199, 0), -1);
    });
  }

  private void seat() {
    in("Promise 27");
    test("what 0 the BENCH, 1 the first UNIT, 2 how many UNITS, 3 whether by a RIGHT (1, 0), 4 WORTH of that as it was", () -> {
      PewRank x = new PewRank();
      x.pulpit(31, 1, 1000);
      x.bench(0, 0, 32, false);
      x.bench(0, 1, 32, false);
      x.household(0, 2, 1);
      x.household(0, 12, 0);
      x.right(0, 1, 0, 20, 12, 0, 199, false);
      x.go();
      int[] byRank = {1, 30, 2, 0, 90 + 100 + 100 + 2};
      for (int what = 0; what < 5; what++) due("by rank " + what, x.seat(0, 0, what), byRank[what]);
      due("by a RIGHT", x.seat(1, 0, 1) * 100 + x.seat(1, 0, 2) * 10 + x.seat(1, 0, 3), 2000 + 120 + 1);
      x.pulpit(0, 60, 1);
      x.changed(0, 5, 1, 9);
      x.gone(1, -1);
      due("WORTH as it was", x.seat(0, 0, 4), 292);
      due("UNITS as they were", x.seat(0, 0, 2), 2);
      due("of one that is GONE", x.seat(1, 0, 2), 12);
    });
    test("NONE: it did not, or no such ones.", () -> {
      PewRank did = years(with(flat(4), 4, 4), 2);
      due("it did not", did.seat(1, 1, 0), -1);
      range(0, 0, 0, -1, v -> years(with(flat(4), 4, 4), 2).seat(v, 0, 0));
      range(0, 1, 0, -1, v -> years(with(flat(4), 4, 4), 2).seat(0, v, 0));
      range(0, 4, 0, -1, v -> Math.min(0, years(with(flat(4), 4, 4), 2).seat(0, 0, v)));
      int[] beyond = {2, 11, 12, 13};
      for (int h : beyond) due("no such HOUSEHOLD as " + h, did.seat(h, 0, 0), -1);
      due("a HOUSEHOLD that came later", did.seat(did.household(0, 1, 0), 0, 0), -1);
      due("this YEAR", did.seat(0, 2, 0), -1);
      due("YEAR 200", did.seat(0, 200, 0), -1);
    });
  }

  private void moved() {
    in("Promise 28");
    test("How many sat in two YEARS that have gone, and not on the same RUN", () -> {
      PewRank x = with(flat(8), 2, 2);
      x.go();
      due("a YEAR and itself", x.moved(0, 0), 0);
      x.changed(0, 0, 1, 0);
      x.go();
      due("one is shorter, one begins elsewhere", x.moved(0, 1), 2);
      due("the other way round", x.moved(1, 0), 2);
      x.changed(0, 0, 12, 0);
      x.go();
      due("who did not sit in both does not count", x.moved(0, 2), 1);
      x.gone(1, -1);
      due("who is GONE had sat", x.moved(1, 2), 1);
      PewRank same = with(flat(8), 2, 2);
      years(same, 2);
      due("the same RUNS", same.moved(0, 1), 0);
      PewRank benches = with(flat(4, 4), 2);
      benches.go();
      benches.right(0, 0, 1, 0, 2, 0, 199, false);
      benches.go();
      due("the same UNITS of another BENCH", benches.moved(0, 1), 1);
    });
    test("-2: there are none such.", () -> {
      range(0, 2, 0, -2, v -> years(with(flat(4), 4), 3).moved(v, 0));
      range(0, 2, 0, -2, v -> years(with(flat(4), 4), 3).moved(0, v));
      due("none has gone", with(flat(4), 4).moved(0, 0), -2);
      due("all have gone", lastYear().moved(0, 198), 0);
      due("but 199", lastYear().moved(199, 0), -2);
    });
  }

  private void beside() {
    in("Promise 29");
    test("This YEAR's SEATING as it would be now BESIDE, nothing being done", () -> {
      PewRank x = furnished();
      for (int what = 0; what < 6; what++) {
        int asked = what;
        refused("asked " + what, Cases::furnished, x.beside(what), y -> y.beside(asked));
      }
      PewRank sits = with(flat(4), 2, 2);
      due("as it would be", sits.beside(1), 2);
      due("no YEAR has gone", sits.count(0), 0);
      due("none has sat", sits.seat(0, 0, 0), -1);
      due("nor counts it", sits.householdOf(0, 4), 0);
      PewRank custom = with(flat(4), 2);
      years(custom, 2);
      for (int i = 0; i < 4; i++) custom.beside(0);
      due("no custom comes of it", custom.count(4), 0);
      due("in 199, too", lastYear().beside(1), 1);
      PewRank now = with(flat(4), 12);
      now.household(0, 4, 0);
      now.right(0, 0, 0, 0, 1, 1, 1, false);
      due("in YEAR 0 all is nobody's", now.beside(1), 1);
      now.go();
      due("in YEAR 1 one UNIT is not", now.beside(1), 0);
      now.go();
      due("in YEAR 2 it is again", now.beside(1), 1);
    });
    test("what 0 all worth of it (IV), 1 how many sit, 2 UNITS that are sat on", () -> {
      PewRank none = new PewRank();
      due("nothing at all", none.beside(0) + none.beside(1) + none.beside(2), 0);
      PewRank x = sloped(4);
      x.household(4, 3, 2);
      x.household(3, 2, 0);
      due("all worth", x.beside(0), (100 + 90 + 71 + 200 + 3) * 5);
      due("one sits", x.beside(1), 1);
      due("on three", x.beside(2), 3);
      x.changed(0, 4, 2, 2);
      due("two sit", x.beside(1), 2);
      due("on four", x.beside(2), 4);
      x.changed(0, 4, 12, 2);
      due("who sat in the one ahead of that is not counted in", x.beside(0), 192 * 4);
      due("nor are its UNITS", x.beside(1) * 10 + x.beside(2), 12);
      // 12 of the greatest RANK, WIDTH and DEAF, near the loudest pulpit
      PewRank most = new PewRank();
      most.pulpit(0, 0, 100000);
      for (int b = 0; b < 8; b++) most.bench(0, 0, 24, false);
      for (int h = 0; h < 12; h++) most.household(99, 12, 9);
      due("all twelve", most.beside(1), 12);
      due("on 144", most.beside(2), 144);
      due("eight at the pulpit, four behind them", most.beside(0), 100L * (8 * most.worth(0, 0, 0) + 4 * most.worth(0, 0, 12)));
    });
  }

  private void besideNobodys() {
    test("all that with all units being nobody's 3, 4, 5", () -> {
      PewRank x = sloped(4);
      x.household(1, 2, 0);
      x.household(0, 1, 0);
      x.right(0, 1, 0, 0, 4, 0, 199, false);
      due("by rights", x.beside(0) * 100 + x.beside(1) * 10 + x.beside(2), 101 * 100 + 11);
      due("all worth", x.beside(3), (100 + 90 + 2) * 2 + 72);
      due("how many", x.beside(4), 2);
      due("UNITS", x.beside(5), 3);
      PewRank gallery = new PewRank();
      gallery.bench(0, 0, 4, true);
      gallery.household(10, 1, 0);
      gallery.right(0, 0, 0, 0, 1, 0, 199, false);
      due("in a gallery by a RIGHT", gallery.beside(1), 1);
      due("not without it", gallery.beside(4) * 10 + gallery.beside(5), 0);
    });
    test("-2 for others.", () -> range(0, 5, 0, -2, v -> Math.min(0, furnished().beside(v))));
  }

  private void count() {
    in("Promise 32");
    test("0 YEAR, 1 BENCHES, 2 PILLARS, 3 HOUSEHOLDS, 4 RIGHTS, 5 LOTS, 6 sales of PLOTS, 7 PLACES that have a row, 8 HOUSEHOLDS that are not GONE.", () -> {
      PewRank x = furnished();
      x.gone(1, -1);
      x.row(3, 0, 0);
      int[] told = {2, 2, 1, 4, 3, 2, 1, 3, 3};
      for (int what = 0; what < 9; what++) due("count " + what, x.count(what), told[what]);
      x.tear(3);
      due("a row of none counts till it is torn", x.count(7), 2);
      x.row(0, 1, 5);
      due("another row in its place counts once", x.count(7), 2);
    });
    test("NONE for others.", () -> range(0, 8, 0, -1, v -> Math.min(0, furnished().count(v))));
  }
}

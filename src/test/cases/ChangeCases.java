/** Term VI; change, changedTo. */
final class ChangeCases extends Cases {
  ChangeCases(Document document) {
    super(document);
  }

  @Override
  void all() {
    looks();
    lengths();
    alike();
    rings();
    change();
    changeRefused();
    changedTo();
  }

  /** Seated by faculty, and a YEAR has gone: the first unit and the WIDTH of each on the sloped bench. */
  private static PewRank seated(int[]... runs) {
    PewRank x = sloped(32);
    for (int[] run : runs) x.right(0, x.household(0, run[1], 0), 0, run[0], run[1], 0, 199, false);
    x.go();
    return x;
  }

  private static int[] run(int from, int width) {
    return new int[] {from, width};
  }

  private static void widths(PewRank x, int... now) {
    for (int h = 0; h < now.length; h++) x.changed(h, 0, now[h], 0);
  }

  private void to(PewRank x, int... whose) {
    for (int h = 0; h < whose.length; h++) due("on whose RUN " + h + " would sit", x.changedTo(h), whose[h]);
  }

  private void looks() {
    in("VI");
    test("each of those who sat looks at the one of them (itself, too)", () -> {
      PewRank one = seated(run(9, 1));
      due("one alone", one.change(1), 0);
      to(one, 0);
      PewRank two = seated(run(0, 1), run(1, 1));
      due("the best is its own", two.change(3), 0);
      to(two, 0, 1);
    });
    test("the first UNITS of it, as many as its own WIDTH is now", () -> {
      PewRank x = new PewRank();
      x.pulpit(7, 0, 1000);
      x.bench(0, 0, 8, false);
      x.bench(0, 1, 8, false);
      // 0 hears 50 in its one unit; 1 hears 38, 52, 71, 90 and 100
      x.right(0, x.household(0, 1, 0), 1, 4, 1, 0, 199, false);
      x.right(0, x.household(0, 5, 0), 0, 3, 5, 0, 199, false);
      x.go();
      x.changed(1, 0, 1, 0);
      due("1 looks at 0, 0 at itself: the first UNIT is worse", x.change(3), 0);
      to(x, 0, 1);
      // two units: 0 has one alone, and 1 looks at none but its own
      x.changed(0, 0, 2, 0);
      x.changed(1, 0, 2, 0);
      due("0 looks at 1", x.change(3), 0);
      x.changed(1, 0, 1, 0);
      due("and 1 at 0", x.change(3), 2);
      to(x, 1, 0);
    });
    test("WORTH is greatest for it", () -> {
      // in the way of 0's unit is a pillar: seen from now, not from the YEAR that has gone
      PewRank x = seated(run(0, 1), run(4, 2));
      widths(x, 2, 1);
      due("0 needs two, 1 needs one", x.change(3), 2);
      x.pulpit(31, 0, 1000);
      due("now 1 is better where it is", x.change(3), 0);
      to(x, 0, 1);
    });
  }

  private void lengths() {
    test("a RUN that is shorter than that is none for it", () -> {
      PewRank x = seated(run(0, 1), run(5, 3));
      widths(x, 3, 1);
      due("as long as it needs", x.change(3), 2);
      to(x, 1, 0);
      widths(x, 4, 1);
      due("shorter by one", x.change(3), 0);
      to(x, 0, 1);
    });
    test("(Who finds no RUN that is long enough looks at itself.)", () -> {
      PewRank x = seated(run(0, 2), run(5, 3));
      widths(x, 12, 12);
      due("neither is long enough", x.change(3), 0);
      to(x, 0, 1);
    });
  }

  private void alike() {
    test("of several itself, if it is one of them, else the least number", () -> {
      PewRank same = with(flat(8), 2, 2, 2);
      same.go();
      due("all are alike", same.change(7), 0);
      to(same, 0, 1, 2);
      // 0 and 1 sit on two units each that see nothing, 2 on one that does; 2 needs two now
      PewRank least = with(flat(8), 2, 2, 1);
      int[] hidden = {2, 3, 5, 6};
      for (int at : hidden) least.pillar(at, 0, 0);
      least.right(0, 0, 0, 2, 2, 0, 199, false);
      least.right(0, 1, 0, 5, 2, 0, 199, false);
      least.right(0, 2, 0, 0, 1, 0, 199, false);
      least.go();
      widths(least, 1, 1, 2);
      due("the least of two that are alike", least.change(7), 2);
      to(least, 2, 1, 0);
      due("the other, if that is not among them", least.change(6), 2);
      to(least, -1, 2, 1);
    });
  }

  private void rings() {
    test("Rings of those who look at one another round get what they look at, and go", () -> {
      // 0 needs three and has two, 1 needs one and has three, 2 needs two and has one
      PewRank x = seated(run(5, 2), run(8, 3), run(0, 1));
      widths(x, 3, 1, 2);
      due("three round", x.change(7), 3);
      to(x, 1, 2, 0);
      due("with one not among them", x.change(5), 0);
      to(x, 0, -1, 2);
      PewRank twice = seated(run(0, 1), run(4, 2), run(8, 3), run(12, 4));
      widths(twice, 2, 1, 4, 3);
      due("two rings", twice.change(15), 4);
      to(twice, 1, 0, 3, 2);
    });
    test("the others look again among those that are left, till none is left", () -> {
      // all look at the best; each time who has it goes
      PewRank row = with(sloped(12), 1, 1, 1, 1, 1, 1, 1, 1, 1, 1, 1, 1);
      row.go();
      due("twelve, one after the other", row.change(4095), 0);
      to(row, 0, 1, 2, 3, 4, 5, 6, 7, 8, 9, 10, 11);
      // 2 looks at 0, who keeps its own; then at 1, who needs its two units
      PewRank again = seated(run(0, 1), run(3, 1), run(8, 2));
      widths(again, 1, 2, 1);
      due("a ring of those that are left", again.change(7), 2);
      to(again, 0, 2, 1);
    });
  }

  private void change() {
    in("Promise 22");
    test("Those of a set of HOUSEHOLDS who sat in the YEAR that went by latest, and are not GONE", () -> {
      PewRank x = seated(run(0, 1), run(5, 2));
      widths(x, 2, 1);
      due("both", x.change(3), 2);
      due("nobody", x.change(0), 0);
      to(x, -1, -1);
      due("one of them", x.change(2), 0);
      to(x, -1, 1);
      x.household(0, 1, 0);
      due("one that has not sat", x.change(7), 2);
      to(x, 1, 0, -1);
      due("that one alone", x.change(4), 0);
      x.gone(1, -1);
      due("one that is GONE", x.change(3), 0);
      to(x, 0, -1);
      PewRank latest = seated(run(0, 1), run(5, 2));
      widths(latest, 12, 2);
      latest.ends(0);
      latest.ends(1);
      latest.right(0, 1, 0, 0, 2, 0, 199, false);
      latest.right(0, 0, 0, 2, 30, 0, 199, false);
      latest.changed(0, 0, 12, 0);
      latest.changed(1, 0, 12, 0);
      latest.go();
      due("who sat in the YEAR ahead of the latest alone", latest.change(3), 0);
      to(latest, 0, -1);
    });
    test("as a thought alone: how many would sit elsewhere", () -> {
      PewRank x = seated(run(0, 1), run(5, 2));
      widths(x, 2, 1);
      x.change(3);
      due("0 sat there", x.seat(0, 0, 1), 0);
      due("1 sat there", x.seat(1, 0, 1), 5);
      due("the RIGHTS stay", x.rightOf(0, 1) * 10 + x.rightOf(1, 1), 1);
      due("no YEAR has gone by it", x.count(0), 1);
      due("again alike", x.change(3), 2);
    });
  }

  private static PewRank thoughtOf() {
    PewRank x = furnished();
    x.change(9);
    return x;
  }

  private void changeRefused() {
    test("-2: the set has others", () -> {
      int[] others = {16, 31, 1 << 11, 1 << 12, 1 << 30, -1, MIN, MAX};
      for (int set : others) refused("the set " + set, ChangeCases::thoughtOf, -2, x -> x.change(set));
      due("all four", furnished().change(15) >= 0, true);
      PewRank all = with(sloped(12), 1, 1, 1, 1, 1, 1, 1, 1, 1, 1, 1, 1);
      all.go();
      due("all twelve", all.change(4095), 0);
      due("a thirteenth", all.change(4096), -2);
      due("others, ahead of any YEAR", with(flat(4), 1).change(2), -2);
      due("there are no HOUSEHOLDS", years(new PewRank(), 1).change(1), -2);
      due("and none are meant", years(new PewRank(), 1).change(0), 0);
    });
    test("-9: no YEAR has gone.", () -> {
      refused("ahead of any", () -> with(flat(4), 1), -9, x -> x.change(1));
      due("none are meant", new PewRank().change(0), -9);
      due("one has gone", years(with(flat(4), 1), 1).change(1), 0);
    });
  }

  private void changedTo() {
    in("Promise 23");
    test("Of the latest change() that told a number: on whose RUN a HOUSEHOLD would sit", () -> {
      PewRank x = seated(run(0, 1), run(5, 2));
      widths(x, 2, 1);
      x.change(3);
      to(x, 1, 0);
      due("one that told none", x.change(4), -2);
      to(x, 1, 0);
      x.changed(0, 0, 1, 0);
      to(x, 1, 0);
      years(x, 1);
      to(x, 1, 0);
      x.change(1);
      to(x, 0, -1);
    });
    test("NONE: it was not among those, there was none.", () -> {
      PewRank x = seated(run(0, 1), run(5, 2));
      for (int h = 0; h < 12; h++) due("there was none, " + h, x.changedTo(h), -1);
      PewRank first = with(flat(4), 1);
      first.change(1);
      due("one that told none", first.changedTo(0), -1);
      x.change(1);
      due("among those", x.changedTo(0), 0);
      int[] none = {1, 2, 11, 12, -1, MIN, MAX};
      for (int h : none) due("not among those, " + h, x.changedTo(h), -1);
    });
  }
}

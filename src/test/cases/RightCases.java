/** Rights: what III says of them, right, ends, rightOf, belongs, judge. */
final class RightCases extends Cases {
  RightCases(Document document) {
    super(document);
  }

  @Override
  void all() {
    better();
    holders();
    right();
    rightRefused();
    ends();
    rightOf();
    belongs();
    judge();
    judgeRefused();
  }

  /** Four households that are too wide to sit, so that no custom comes of the YEARS. */
  private static PewRank wide() {
    return with(flat(8, 4), 12, 12, 12, 12);
  }

  private void better() {
    in("III");
    test("YEARS go from 0 on, to 199.", () -> {
      PewRank x = wide();
      due("the first", x.count(0), 0);
      years(x, 199);
      due("the last", x.count(0), 199);
      due("none behind it", x.go(), -9);
      due("a RIGHT for it", x.right(0, 0, 0, 0, 1, 199, 199, false), 0);
      due("it belongs", x.belongs(0, 0, 199, 199, 0), 0);
    });
    test("RIGHTS 0 .., 100 at most", () -> {
      PewRank x = wide();
      for (int r = 0; r < 100; r++) due("right " + r, x.right(0, 0, 0, 0, 1, 0, 0, false), r);
      due("one more", x.right(0, 0, 0, 0, 1, 0, 0, false), -3);
    });
    test("BETTER of two RIGHTS is the one of the lesser KIND", () -> {
      PewRank x = wide();
      x.sell(0, 2);
      x.right(3, 0, 0, 0, 1, 0, 9, false);
      int[] kinds = {2, 1, 0};
      int[] holders = {1, 0, 3};
      for (int i = 0; i < 3; i++) {
        int number = x.right(kinds[i], holders[i], 0, 0, 1, 5, 9, false);
        due("a later YEAR, a greater number, KIND " + kinds[i], x.belongs(0, 0, 5, 0, 1), number);
      }
      due("ahead of that YEAR", x.belongs(0, 0, 4, 0, 1), 0);
    });
    test("then since the earlier YEAR", () -> {
      PewRank x = wide();
      x.right(2, 0, 0, 0, 1, 2, 9, false);
      x.right(2, 1, 0, 0, 1, 1, 9, false);
      x.right(2, 2, 0, 0, 1, 3, 9, false);
      due("a greater number, since the earlier YEAR", x.belongs(0, 0, 5, 0, 0), 1);
      due("ahead of the earlier one", x.belongs(0, 0, 0, 0, 0), -1);
    });
    test("then the lesser number", () -> {
      PewRank x = wide();
      x.right(2, 3, 0, 0, 1, 2, 9, false);
      x.right(2, 0, 0, 0, 1, 2, 9, false);
      due("alike", x.belongs(0, 0, 5, 0, 1), 0);
      x.ends(0);
      due("when the lesser has ended", x.belongs(0, 0, 5, 0, 1), 1);
    });
  }

  private void holders() {
    test("UNITS of a BENCH, the YEARS since .. until, when it came to be known", () -> {
      PewRank x = years(wide(), 2);
      x.right(0, 0, 0, 2, 3, 4, 6, false);
      int[][] unitYearKnown = {{2, 4, 2}, {4, 6, 2}, {2, 6, 2}, {4, 4, 2}};
      for (int[] k : unitYearKnown) due("UNIT " + k[0] + " in YEAR " + k[1], x.belongs(0, k[0], k[1], k[2], 0), 0);
      int[][] beyond = {{1, 4, 2}, {5, 4, 2}, {2, 3, 2}, {2, 7, 2}, {2, 4, 1}};
      for (int[] k : beyond) due("UNIT " + k[0] + " in YEAR " + k[1] + " known in " + k[2], x.belongs(0, k[0], k[1], k[2], 0), -1);
      due("another BENCH", x.belongs(1, 2, 4, 2, 0), -1);
    });
    test("(of land a PLOT: in each YEAR whoever's that is then)", () -> {
      PewRank x = wide();
      x.right(1, 5, 0, 0, 1, 0, 199, false);
      x.sell(5, 0);
      years(x, 2);
      x.sell(5, 1);
      due("in YEAR 1", x.belongs(0, 0, 1, 2, 0), 0);
      due("in YEAR 2", x.belongs(0, 0, 2, 2, 0), 1);
      due("in YEAR 199", x.belongs(0, 0, 199, 2, 0), 1);
    });
    test("a PRICE (0 but by V)", () -> {
      PewRank x = wide();
      due("of rent that is told", x.rightOf(x.right(3, 0, 0, 0, 1, 0, 9, true), 9), 0);
      x.gone(0, 1);
      due("of an heir's", x.rightOf(1, 9), 0);
    });
    test("the best RIGHT that is for that YEAR, known by then, and has a holder (in that YEAR)", () -> {
      PewRank x = wide();
      x.right(2, 3, 0, 0, 1, 0, 9, false);
      x.right(1, 5, 0, 0, 1, 0, 9, false);
      due("land of a PLOT that is nobody's is passed over", x.belongs(0, 0, 0, 0, 1), 0);
      x.go();
      x.sell(5, 1);
      due("that of a PLOT that is somebody's is not", x.belongs(0, 0, 1, 1, 1), 1);
      due("but in the YEAR ahead", x.belongs(0, 0, 0, 1, 1), 0);
      x.go();
      x.sell(5, -1);
      due("and when it is nobody's again", x.belongs(0, 0, 2, 2, 1), 0);
    });
    test("The better RIGHT in a quarrel: of those for that UNIT and YEAR, known by then, whose holder is one of the two.", () -> {
      PewRank x = wide();
      x.right(0, 0, 0, 0, 1, 0, 9, false);
      x.right(1, 5, 0, 0, 1, 0, 9, false);
      x.right(2, 2, 0, 0, 1, 0, 9, false);
      x.right(3, 3, 0, 0, 1, 0, 9, false);
      x.sell(5, 1);
      int[][] quarrels = {{0, 3, 0}, {1, 0, 0}, {1, 2, 1}, {3, 1, 1}, {2, 3, 2}, {3, 2, 2}};
      for (int[] q : quarrels) due("of " + q[0] + " and " + q[1], x.judge(q[0], q[1], 0, 0, 0, 0), q[2]);
    });
  }

  private void right() {
    in("Promise 11");
    test("A RIGHT comes to be known now: its number.", () -> {
      PewRank x = wide();
      due("all of a bench, in all YEARS", x.right(0, 0, 0, 0, 8, 0, 199, true), 0);
      due("one unit, in one YEAR", x.right(0, 0, 1, 3, 1, 199, 199, false), 1);
      x.go();
      due("of YEARS that have gone", x.right(0, 0, 1, 0, 1, 0, 0, false), 2);
      due("known now", x.rightOf(2, 7), 1);
      due("not ahead of that", x.belongs(1, 0, 0, 0, 0), -1);
      due("but now", x.belongs(1, 0, 0, 1, 0), 0);
    });
    test("-2: KIND is not 0 .. 3", () -> range(0, 3, 0, -2, v -> wide().right(v, 0, 0, 0, 1, 0, 9, false)));
    test("BENCH, UNITS from .. are none such", () -> {
      range(0, 1, 0, -2, v -> wide().right(0, 0, v, 0, 1, 0, 9, false));
      range(0, 7, 0, -2, v -> wide().right(0, 0, 0, v, 1, 0, 9, false));
      range(0, 3, 0, -2, v -> wide().right(0, 0, 1, v, 1, 0, 9, false));
      range(1, 8, 0, -2, v -> wide().right(0, 0, 0, 0, v, 0, 9, false));
      range(1, 3, 0, -2, v -> wide().right(0, 0, 0, 5, v, 0, 9, false));
      range(1, 1, 0, -2, v -> wide().right(0, 0, 0, 7, v, 0, 9, false));
      due("from and UNITS that run over", wide().right(0, 0, 0, MAX, MAX, 0, 9, false), -2);
    });
  }

  private static PewRank hundredRights() {
    PewRank x = wide();
    for (int r = 0; r < 100; r++) x.right(3, 3, 0, 0, 1, 0, 9, false);
    return x;
  }

  private void rightRefused() {
    test("the holder is no HOUSEHOLD (of KIND 1 no PLOT)", () -> {
      int[] kinds = {0, 2, 3};
      for (int kind : kinds) range(0, 3, 0, -2, v -> wide().right(kind, v, 0, 0, 1, 0, 9, false));
      range(0, 7, 0, -2, v -> wide().right(1, v, 0, 0, 1, 0, 9, false));
      due("a PLOT where there are no HOUSEHOLDS", flat(4).right(1, 7, 0, 0, 1, 0, 9, false), 0);
      PewRank x = wide();
      x.gone(0, -1);
      due("one that is GONE is a HOUSEHOLD", x.right(0, 0, 0, 0, 1, 0, 9, false), 0);
    });
    test("YEARS are not 0 .. 199 in order", () -> {
      range(0, 199, 0, -2, v -> wide().right(0, 0, 0, 0, 1, v, 199, false));
      range(0, 199, 0, -2, v -> wide().right(0, 0, 0, 0, 1, 0, v, false));
      due("one and the same", wide().right(0, 0, 0, 0, 1, 7, 7, false), 0);
      due("out of order by one", wide().right(0, 0, 0, 0, 1, 8, 7, false), -2);
      refused("out of order", Cases::furnished, -2, x -> x.right(0, 0, 0, 0, 1, 199, 0, true));
    });
    test("-3: there are 100.", () -> {
      refused("one more", RightCases::hundredRights, -3, x -> x.right(0, 0, 0, 0, 1, 0, 9, true));
      refused("one more, not as told", RightCases::hundredRights, -2, x -> x.right(4, 0, 0, 0, 1, 0, 9, true));
      PewRank x = hundredRights();
      x.ends(0);
      due("one that has ended leaves no number", x.right(0, 0, 0, 0, 1, 0, 9, true), -3);
    });
  }

  private void ends() {
    in("Promise 12");
    test("A RIGHT ends with the last YEAR (as if told now", () -> {
      PewRank x = wide();
      x.right(0, 0, 0, 0, 1, 0, 199, false);
      x.right(0, 0, 0, 1, 1, 0, 3, false);
      years(x, 3);
      due("ends", x.ends(0), true);
      due("with the last YEAR", x.rightOf(0, 6), 2);
      due("in the last YEAR", x.belongs(0, 0, 2, 3, 0), 0);
      due("in this one", x.belongs(0, 0, 3, 3, 0), -1);
      due("as was known in the last YEAR", x.belongs(0, 0, 3, 2, 0), 0);
      due("as was known in the last YEAR, for 199", x.belongs(0, 0, 199, 2, 0), 0);
      due("one that goes until this YEAR", x.ends(1), true);
      due("until the last one now", x.rightOf(1, 6), 2);
      x.go();
      due("what was told in YEAR 3 stays told", x.belongs(0, 0, 3, 4, 0), -1);
    });
    test("of one that begins in this YEAR or later nothing stays): true", () -> {
      PewRank x = years(wide(), 3);
      x.right(0, 0, 0, 0, 1, 3, 9, false);
      x.right(0, 0, 0, 1, 1, 199, 199, false);
      due("since this YEAR", x.ends(0), true);
      due("since 199", x.ends(1), true);
      due("nothing of the first", x.belongs(0, 0, 3, 3, 0), -1);
      due("nothing of the second", x.belongs(0, 1, 199, 3, 0), -1);
      due("since stays", x.rightOf(0, 5) * 1000 + x.rightOf(1, 5), 3199);
      due("until is the last YEAR", x.rightOf(0, 6) * 1000 + x.rightOf(1, 6), 2002);
      PewRank first = wide();
      first.right(0, 0, 0, 0, 1, 0, 0, false);
      due("in YEAR 0", first.ends(0), true);
      due("nothing of it", first.belongs(0, 0, 0, 0, 0), -1);
      due("again", first.ends(0), false);
    });
    test("false: none such", () -> {
      int[] none = {-1, 3, MIN, MAX};
      for (int r : none) refused("ends " + r, Cases::furnished, 0, x -> x.ends(r) ? 1 : 0);
      range(0, 99, 1, 0, v -> hundredRights().ends(v) ? 1 : 0);
      due("ahead of any", new PewRank().ends(0), false);
    });
    test("or it ended ahead of that", () -> {
      PewRank x = wide();
      x.right(0, 0, 0, 0, 1, 0, 1, false);
      x.right(0, 0, 0, 1, 1, 0, 0, false);
      x.right(0, 0, 0, 2, 1, 0, 9, false);
      years(x, 2);
      due("until the last YEAR by itself", x.ends(0), false);
      due("until an earlier one", x.ends(1), false);
      due("it stays as it was", x.rightOf(1, 6), 0);
      due("once", x.ends(2), true);
      due("twice", x.ends(2), false);
      x.go();
      due("in the next YEAR", x.ends(2), false);
      due("its until stays", x.rightOf(2, 6), 1);
    });
  }

  private void rightOf() {
    in("Promise 13");
    test("0 KIND, 1 holder, 2 BENCH, 3 first UNIT, 4 UNITS, 5 since, 6 until, 7 when it came to be known, 8 whether it goes to heirs (1, 0), 9 its PRICE.", () -> {
      PewRank x = years(wide(), 4);
      x.right(1, 7, 1, 2, 2, 3, 199, true);
      x.right(3, 3, 0, 0, 8, 0, 0, false);
      int[][] told = {{1, 7, 1, 2, 2, 3, 199, 4, 1, 0}, {3, 3, 0, 0, 8, 0, 0, 4, 0, 0}};
      for (int r = 0; r < 2; r++) {
        for (int what = 0; what < 10; what++) due("of " + r + " " + what, x.rightOf(r, what), told[r][what]);
      }
    });
    test("-2 for others.", () -> {
      range(0, 9, 0, -2, v -> Math.min(0, furnished().rightOf(0, v)));
      range(0, 2, 0, -2, v -> Math.min(0, furnished().rightOf(v, 0)));
      range(0, 99, 3, -2, v -> hundredRights().rightOf(v, 0));
      due("ahead of any", new PewRank().rightOf(0, 0), -2);
    });
  }

  private void belongs() {
    in("Promise 16");
    test("To whom a UNIT belongs in a YEAR (0 .. 199)", () -> {
      range(0, 199, 0, -2, v -> {
        PewRank x = wide();
        x.right(0, 0, 0, 0, 1, 0, 199, false);
        return x.belongs(0, 0, v, 0, 0);
      });
      PewRank x = wide();
      x.right(0, 2, 0, 3, 2, 5, 7, false);
      int[] years = {-1, 2, 2, 2, -1};
      for (int y = 4; y <= 8; y++) due("in YEAR " + y, x.belongs(0, 3, y, 0, 0), years[y - 4]);
      int[] units = {-1, 2, 2, -1};
      for (int u = 2; u <= 5; u++) due("UNIT " + u, x.belongs(0, u, 5, 0, 0), units[u - 2]);
    });
    test("by what was known at the end of a YEAR (0 .. this one; whose a PLOT is in it, as it is known now)", () -> {
      range(0, 3, -1, -2, v -> years(wide(), 3).belongs(0, 0, 0, v, 0));
      PewRank x = years(wide(), 1);
      x.right(0, 0, 0, 0, 1, 0, 9, false);
      x.right(1, 2, 0, 1, 1, 0, 199, false);
      x.go();
      x.sell(2, 3);
      due("not at the end of YEAR 0", x.belongs(0, 0, 5, 0, 0), -1);
      due("at the end of YEAR 1", x.belongs(0, 0, 5, 1, 0), 0);
      due("a PLOT that was sold later", x.belongs(0, 1, 5, 1, 0), 3);
      due("in the YEAR ahead of its sale", x.belongs(0, 1, 1, 2, 0), -1);
    });
    test("the HOUSEHOLD (NONE: nobody); what 1: the RIGHT by which that is (NONE)", () -> {
      PewRank x = wide();
      x.right(1, 7, 0, 0, 1, 0, 9, false);
      x.right(3, 2, 0, 0, 1, 0, 9, false);
      due("the HOUSEHOLD", x.belongs(0, 0, 0, 0, 0), 2);
      due("the RIGHT", x.belongs(0, 0, 0, 0, 1), 1);
      x.sell(7, 3);
      due("the HOUSEHOLD whose the PLOT is", x.belongs(0, 0, 0, 0, 0), 3);
      due("its RIGHT", x.belongs(0, 0, 0, 0, 1), 0);
      due("nobody", x.belongs(0, 0, 10, 0, 0), -1);
      due("by none", x.belongs(0, 0, 10, 0, 1), -1);
    });
    test("-2 for others.", () -> {
      range(0, 1, -1, -2, v -> wide().belongs(0, 0, 0, 0, v));
      range(0, 1, -1, -2, v -> wide().belongs(v, 0, 0, 0, 0));
      range(0, 7, -1, -2, v -> wide().belongs(0, v, 0, 0, 0));
      range(0, 3, -1, -2, v -> wide().belongs(1, v, 0, 0, 0));
    });
  }

  private void judge() {
    in("Promise 17");
    test("by what was known at the end of a YEAR (whose a PLOT is as belongs())", () -> {
      PewRank x = years(wide(), 1);
      x.right(3, 0, 0, 0, 1, 0, 9, false);
      x.right(1, 2, 0, 0, 1, 0, 9, false);
      x.go();
      x.right(0, 2, 0, 0, 1, 0, 9, false);
      x.sell(2, 1);
      due("at the end of YEAR 0", x.judge(0, 1, 0, 0, 2, 0), -1);
      due("at the end of YEAR 1, the PLOT as it is known now", x.judge(0, 1, 0, 0, 2, 1), 1);
      due("in the YEAR ahead of its sale", x.judge(0, 1, 0, 0, 1, 1), 0);
      due("at the end of YEAR 1 the third has none", x.judge(0, 2, 0, 0, 2, 1), 0);
      due("now it has", x.judge(0, 2, 0, 0, 2, 2), 2);
      PewRank sold = wide();
      sold.right(1, 2, 0, 0, 1, 0, 9, false);
      sold.sell(2, 0);
      sold.go();
      sold.sell(2, 1);
      due("in the YEAR ahead of a sale from one to the other", sold.judge(0, 1, 0, 0, 0, 1), 0);
      due("in the YEAR of that", sold.judge(0, 1, 0, 0, 1, 1), 1);
    });
    test("which of them has the better RIGHT (III); NONE: neither has one", () -> {
      PewRank x = wide();
      x.right(0, 2, 0, 0, 1, 0, 9, false);
      x.right(2, 1, 0, 0, 1, 1, 9, false);
      x.right(2, 0, 0, 0, 1, 0, 9, false);
      due("of two of one KIND", x.judge(0, 1, 0, 0, 5, 0), 0);
      due("the other way round", x.judge(1, 0, 0, 0, 5, 0), 0);
      due("the one that has any", x.judge(3, 1, 0, 0, 5, 0), 1);
      due("a UNIT beside it", x.judge(0, 1, 0, 1, 5, 0), -1);
      due("a YEAR behind it", x.judge(0, 1, 0, 0, 10, 0), -1);
      due("in YEAR 0 one has none yet", x.judge(3, 1, 0, 0, 0, 0), -1);
    });
  }

  private void judgeRefused() {
    test("-2: something is not as told, they are one.", () -> {
      range(0, 2, -1, -2, v -> wide().judge(v, 3, 0, 0, 0, 0));
      range(1, 3, -1, -2, v -> wide().judge(0, v, 0, 0, 0, 0));
      due("one that is none such", wide().judge(4, 0, 0, 0, 0, 0), -2);
      due("another that is none such", wide().judge(0, -1, 0, 0, 0, 0), -2);
      range(0, 1, -1, -2, v -> wide().judge(0, 1, v, 0, 0, 0));
      range(0, 7, -1, -2, v -> wide().judge(0, 1, 0, v, 0, 0));
      range(0, 199, -1, -2, v -> wide().judge(0, 1, 0, 0, v, 0));
      range(0, 3, -1, -2, v -> years(wide(), 3).judge(0, 1, 0, 0, 0, v));
      for (int h = 0; h < 4; h++) due("they are one", wide().judge(h, h, 0, 0, 0, 0), -2);
      PewRank x = wide();
      x.right(0, 0, 0, 0, 1, 0, 9, false);
      x.go();
      x.gone(0, -1);
      due("one that is GONE may quarrel about what was", x.judge(0, 1, 0, 0, 0, 1), 0);
      due("and about what was known", x.judge(1, 0, 0, 0, 1, 0), 0);
      due("but has nothing now", x.judge(0, 1, 0, 0, 1, 1), -1);
    });
  }
}

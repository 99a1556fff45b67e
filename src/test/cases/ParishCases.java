/** Households and plots: household, changed, gone, sell, plotOf, householdOf, and what III says of those who are GONE. */
final class ParishCases extends Cases {
  ParishCases(Document document) {
    super(document);
  }

  @Override
  void all() {
    household();
    changed();
    goneAnswers();
    goneNumbers();
    goneRights();
    heirs();
    goneElse();
    sell();
    plotOf();
    householdOf();
  }

  private static PewRank twelve() {
    return with(flat(8), 1, 1, 1, 1, 1, 1, 1, 1, 1, 1, 1, 1);
  }

  private void household() {
    in("Promise 6");
    test("A HOUSEHOLD more: its number.", () -> {
      PewRank x = new PewRank();
      due("the least of all", x.household(0, 1, 0), 0);
      due("the greatest of all", x.household(99, 12, 9), 1);
      x.go();
      due("when a YEAR has gone", x.household(0, 1, 0), 2);
    });
    test("-2: RANK is not 0 .. 99", () -> range(0, 99, 0, -2, v -> new PewRank().household(v, 1, 0)));
    test("WIDTH not 1 .. 12", () -> range(1, 12, 0, -2, v -> new PewRank().household(0, v, 0)));
    test("DEAF not 0 .. 9", () -> {
      range(0, 9, 0, -2, v -> new PewRank().household(0, 1, v));
      refused("DEAF 10", Cases::furnished, -2, x -> x.household(0, 1, 10));
    });
    test("-3: there are 12.", () -> {
      refused("a thirteenth", ParishCases::twelve, -3, x -> x.household(99, 12, 9));
      refused("a thirteenth that is not as told", ParishCases::twelve, -2, x -> x.household(100, 1, 0));
      PewRank x = twelve();
      x.gone(5, -1);
      due("who is GONE leaves no number", x.household(0, 1, 0), -3);
    });
  }

  private void changed() {
    in("Promise 7");
    test("Another RANK, WIDTH, DEAF of a HOUSEHOLD: 0", () -> {
      PewRank x = with(flat(8), 3, 5);
      due("the least", x.changed(0, 0, 1, 0), 0);
      due("the greatest", x.changed(1, 99, 12, 9), 0);
      int[] least = {0, 1, 0};
      int[] greatest = {99, 12, 9};
      for (int what = 0; what < 3; what++) {
        due("least " + what, x.householdOf(0, what), least[what]);
        due("greatest " + what, x.householdOf(1, what), greatest[what]);
      }
      due("to what it is", x.changed(0, 0, 1, 0), 0);
    });
    test("-2: there is none such", () -> {
      range(0, 3, 0, -2, v -> furnished().changed(v, 1, 1, 1));
      range(0, 11, 0, -2, v -> twelve().changed(v, 1, 1, 1));
      due("ahead of any", new PewRank().changed(0, 1, 1, 1), -2);
    });
    test("it is GONE", () -> {
      PewRank x = furnished();
      x.gone(1, -1);
      due("changed", x.changed(1, 1, 1, 1), -2);
      due("its RANK stays", x.householdOf(1, 0), 12);
    });
    test("one is not as told", () -> {
      range(0, 99, 0, -2, v -> furnished().changed(0, v, 1, 0));
      range(1, 12, 0, -2, v -> furnished().changed(0, 1, v, 0));
      range(0, 9, 0, -2, v -> furnished().changed(0, 1, 1, v));
      refused("RANK and WIDTH are as told, DEAF is not", Cases::furnished, -2, x -> x.changed(0, 9, 9, 10));
      refused("RANK and DEAF are as told, WIDTH is not", Cases::furnished, -2, x -> x.changed(0, 9, 0, 9));
    });
  }

  private void goneAnswers() {
    in("Promise 8");
    test("its heir (NONE: none) has what goes to heirs (III): how many RIGHTS that are", () -> {
      PewRank x = with(flat(8), 1, 1, 1);
      x.right(0, 0, 0, 0, 1, 0, 9, true);
      x.right(2, 0, 0, 1, 1, 0, 9, true);
      x.right(3, 0, 0, 2, 1, 0, 9, false);
      due("two of three", x.gone(0, 1), 2);
      due("the heir's go on to nobody", x.gone(1, -1), 0);
      due("numbers", x.count(4), 5);
      due("one without any", x.gone(2, -1), 0);
      due("all are GONE", x.count(8), 0);
    });
    test("-2: there is none such, it is GONE", () -> {
      range(0, 3, 0, -2, v -> Math.min(0, furnished().gone(v, -1)));
      range(0, 11, 0, -2, v -> twelve().gone(v, v == 11 ? 0 : 11));
      refused("none such, no heir", Cases::furnished, -2, x -> x.gone(-1, -1));
      PewRank x = furnished();
      due("once", x.gone(1, 0), 0);
      due("twice", x.gone(1, 0), -2);
      due("twice, without an heir", x.gone(1, -1), -2);
      due("the others stay", x.count(8), 3);
    });
    test("the heir is none such, GONE, or itself", () -> {
      int[] others = {-2, 4, 0, MIN, MAX};
      for (int heir : others) refused("the heir " + heir, Cases::furnished, -2, x -> x.gone(0, heir));
      refused("the heir 12 of twelve", ParishCases::twelve, -2, x -> x.gone(0, 12));
      PewRank x = furnished();
      x.gone(1, -1);
      due("a GONE heir", x.gone(0, 1), -2);
      due("it is not GONE", x.householdOf(0, 3), 0);
      due("nor has its RIGHT ended", x.rightOf(0, 6), 90);
    });
  }

  /** 98 rights, of which household 0 holds some that go to heirs. */
  private static PewRank nearlyFull(int heritable) {
    PewRank x = with(flat(8), 1, 1);
    for (int r = 0; r < 98; r++) x.right(0, r < heritable ? 0 : 1, 0, 0, 1, 0, 9, true);
    x.sell(3, 0);
    return x;
  }

  private void goneNumbers() {
    test("-3: there are not so many numbers left.", () -> {
      PewRank fits = nearlyFull(2);
      due("two, two left", fits.gone(0, 1), 2);
      due("numbers", fits.count(4), 100);
      refused("three, two left", () -> nearlyFull(3), -3, x -> x.gone(0, 1));
      PewRank stays = nearlyFull(3);
      stays.gone(0, 1);
      due("its plot stays", stays.plotOf(3, 0), 0);
      due("its first RIGHT stays", stays.rightOf(0, 6), 9);
      due("an heir that is none such comes first", stays.gone(0, 2), -2);
      due("without an heir none are needed", stays.gone(0, -1), 0);
      due("its RIGHTS have ended", stays.rightOf(2, 6), -1);
      PewRank full = nearlyFull(0);
      full.right(0, 1, 0, 0, 1, 0, 9, true);
      full.right(0, 1, 0, 0, 1, 0, 9, true);
      due("none left, none needed", full.gone(0, 1), 0);
    });
  }

  private void goneRights() {
    in("III");
    test("all RIGHTS that it holds itself (none of land) and that are for this YEAR or later ones end with the last YEAR", () -> {
      PewRank x = with(flat(8), 1, 1);
      x.right(0, 0, 0, 0, 1, 0, 1, true);
      x.right(0, 0, 0, 1, 1, 0, 2, true);
      x.right(0, 0, 0, 2, 1, 2, 2, false);
      x.right(0, 0, 0, 3, 1, 199, 199, true);
      x.right(1, 0, 0, 4, 1, 0, 199, true);
      x.right(0, 1, 0, 5, 1, 0, 199, true);
      x.sell(0, 0);
      years(x, 2);
      due("for the heir: until this YEAR, and a later one", x.gone(0, 1), 2);
      int[] until = {1, 1, 1, 1, 199, 199, 2, 199};
      for (int r = 0; r < until.length; r++) due("until of " + r, x.rightOf(r, 6), until[r]);
      due("no more", x.count(4), 8);
      due("in the last YEAR it was its own", x.belongs(0, 1, 1, 2, 0), 0);
      due("one since this YEAR was never", x.belongs(0, 2, 2, 2, 0), -1);
    });
    test("for each that goes to heirs, by numbers, the heir, if there is one, has a RIGHT like that, known now", () -> {
      PewRank x = rare(with(flat(8, 8), 1, 1, 1));
      x.right(3, 0, 1, 2, 3, 1, 50, true);
      x.right(0, 0, 0, 0, 1, 0, 50, false);
      x.right(2, 0, 0, 4, 4, 7, 60, true);
      years(x, 3);
      x.gone(0, 2);
      int[][] like = {{3, 2, 1, 2, 3, 1, 50, 3, 1, 0}, {2, 2, 0, 4, 4, 7, 60, 3, 1, 0}};
      for (int r = 0; r < 2; r++) {
        for (int what = 0; what < 10; what++) due("of the RIGHT " + (3 + r) + " " + what, x.rightOf(3 + r, what), like[r][what]);
      }
      due("not known ahead of that", x.belongs(1, 2, 3, 2, 0), 0);
      due("known now", x.belongs(1, 2, 3, 3, 0), 2);
      PewRank alone = with(flat(8), 1);
      alone.right(0, 0, 0, 0, 1, 0, 50, true);
      due("no heir", alone.gone(0, -1), 0);
      due("no RIGHT more", alone.count(4), 1);
    });
  }

  private void heirs() {
    test("since the same YEAR as that, but for no YEAR ahead of this one", () -> {
      PewRank x = rare(with(flat(8), 1, 1));
      x.right(0, 0, 0, 0, 1, 1, 50, true);
      years(x, 3);
      x.gone(0, 1);
      due("since", x.rightOf(1, 5), 1);
      due("the YEAR ahead of this one is still the other's", x.belongs(0, 0, 2, 3, 1), 0);
      due("this one", x.belongs(0, 0, 3, 3, 1), 1);
      due("until the end", x.belongs(0, 0, 50, 3, 1), 1);
      due("not behind it", x.belongs(0, 0, 51, 3, 1), -1);
      due("nor ahead of the first", x.belongs(0, 0, 0, 3, 1), -1);
      due("a quarrel about the YEAR ahead", x.judge(0, 1, 0, 0, 2, 3), 0);
      due("a quarrel about this YEAR", x.judge(0, 1, 0, 0, 3, 3), 1);
      PewRank third = rare(with(flat(8), 1, 1, 1));
      third.right(0, 0, 0, 0, 1, 1, 50, true);
      third.right(3, 2, 0, 0, 1, 0, 50, false);
      third.right(0, 0, 0, 1, 1, 9, 50, true);
      years(third, 3);
      third.gone(0, 1);
      due("the heir against a third, about the YEAR ahead", third.judge(1, 2, 0, 0, 2, 3), 2);
      due("the heir against a third, about this YEAR", third.judge(1, 2, 0, 0, 3, 3), 1);
      due("one that begins later, in the YEAR ahead of that", third.belongs(0, 1, 8, 3, 0), -1);
      due("one that begins later", third.belongs(0, 1, 9, 3, 0), 1);
    });
    test("for BETTER the older YEAR counts", () -> {
      PewRank x = rare(with(flat(8), 1, 1, 1, 1));
      x.right(0, 0, 0, 0, 1, 1, 50, true);
      x.right(0, 2, 0, 0, 1, 2, 50, false);
      years(x, 3);
      x.gone(0, 1);
      due("the heir's counts since 1", x.belongs(0, 0, 3, 3, 0), 1);
      x.right(0, 3, 0, 0, 1, 0, 50, false);
      due("but not against one since 0", x.belongs(0, 0, 3, 3, 0), 3);
      x.ends(3);
      x.go();
      x.gone(1, 3);
      due("an heir's heir", x.belongs(0, 0, 4, 4, 0), 3);
      due("since the first one's YEAR", x.rightOf(x.belongs(0, 0, 4, 4, 1), 5), 1);
    });
    test("A RIGHT that ends: until becomes the last YEAR; by what was known ahead of this YEAR it goes on as it was.", () -> {
      PewRank x = rare(with(flat(8), 1, 1));
      x.right(0, 0, 0, 0, 1, 0, 50, true);
      years(x, 3);
      x.gone(0, 1);
      due("until", x.rightOf(0, 6), 2);
      due("as it was, in this YEAR", x.belongs(0, 0, 3, 2, 1), 0);
      due("as it was, in its last YEAR", x.belongs(0, 0, 50, 0, 1), 0);
      due("not behind that", x.belongs(0, 0, 51, 0, 1), -1);
      years(x, 2);
      due("later on, too", x.belongs(0, 0, 3, 2, 1) * 10 + x.belongs(0, 0, 3, 4, 1), 1);
      PewRank first = with(flat(8), 1);
      first.right(0, 0, 0, 0, 1, 0, 50, true);
      first.gone(0, -1);
      due("in YEAR 0 nothing stays", first.belongs(0, 0, 0, 0, 0), -1);
      due("its until", first.rightOf(0, 6), -1);
    });
    test("One that is not known yet in a YEAR is not there.", () -> {
      PewRank x = years(with(flat(8), 1, 1), 2);
      x.right(2, 1, 0, 0, 1, 0, 9, false);
      x.right(0, 0, 0, 0, 1, 0, 9, false);
      due("told in YEAR 2, by what was known in 1", x.belongs(0, 0, 2, 1, 0), -1);
      due("nor in a quarrel", x.judge(0, 1, 0, 0, 2, 1), -1);
      due("by what is known in 2", x.belongs(0, 0, 0, 2, 0), 0);
    });
  }

  private void goneElse() {
    test("Its PLOTS are the heir's (nobody's) from this YEAR on (no sales).", () -> {
      PewRank x = with(flat(8), 1, 1);
      x.sell(0, 0);
      x.sell(7, 0);
      x.sell(3, 1);
      x.go();
      x.gone(0, 1);
      due("the YEAR ahead", x.plotOf(0, 0), 0);
      due("this YEAR", x.plotOf(0, 1), 1);
      due("the last YEAR", x.plotOf(7, 199), 1);
      due("one that was nobody's", x.plotOf(1, 1), -1);
      due("no sales", x.count(6), 3);
      x.gone(1, -1);
      for (int plot = 0; plot < 8; plot++) due("nobody's " + plot, x.plotOf(plot, 1), -1);
      PewRank full = with(flat(8), 1, 1);
      for (int i = 0; i < 100; i++) full.sell(0, 0);
      due("also when 100 were sold", full.gone(0, 1), 0);
      due("whose it is", full.plotOf(0, 0), 1);
      PewRank late = with(flat(8), 12, 12);
      late.sell(0, 0);
      years(late, 199);
      late.gone(0, 1);
      due("in 199", late.plotOf(0, 198) * 10 + late.plotOf(0, 199), 1);
    });
    test("It sits no more.", () -> {
      PewRank x = with(flat(8), 1, 1);
      x.right(0, 0, 0, 0, 1, 0, 199, false);
      due("both", x.go(), 2);
      x.gone(0, -1);
      due("one would", x.beside(1), 1);
      due("one would, without rights", x.beside(4), 1);
      due("one does", x.go(), 1);
      due("not it", x.seat(0, 1, 0), -1);
      x.right(0, 0, 0, 0, 1, 0, 199, false);
      due("nor by a RIGHT that it is told to have", x.go(), 1);
      due("not it", x.seat(0, 2, 0), -1);
    });
  }

  private static PewRank hundredSales() {
    PewRank x = with(flat(8), 1, 1);
    for (int i = 0; i < 100; i++) x.sell(i % 8, i % 2);
    return x;
  }

  private void sell() {
    in("Promise 9");
    test("A PLOT (0 .. 7) is a HOUSEHOLD's", () -> {
      range(0, 7, -1, -2, v -> furnished().sell(v, 0));
      PewRank x = with(flat(8), 1);
      x.sell(7, 0);
      due("it is", x.plotOf(7, 0), 0);
    });
    test("(NONE: nobody's) from this YEAR on: whose it was (NONE)", () -> {
      PewRank x = with(flat(8), 1, 1);
      due("nobody's", x.sell(0, -1), -1);
      due("nobody's still", x.sell(0, 1), -1);
      due("the other's", x.sell(0, 1), 1);
      x.go();
      due("to nobody", x.sell(0, -1), 1);
      due("the YEAR ahead", x.plotOf(0, 0), 1);
      due("this YEAR", x.plotOf(0, 1), -1);
      due("the last YEAR", x.plotOf(0, 199), -1);
      due("twice in one YEAR", x.sell(0, 0), -1);
      due("sales to nobody count", x.count(6), 5);
      PewRank late = years(with(flat(8), 12, 12), 198);
      late.sell(0, 1);
      late.go();
      due("in 199", late.sell(0, 0), 1);
      due("whose it is then", late.plotOf(0, 199), 0);
    });
    test("-2: there are none such, the HOUSEHOLD is GONE", () -> {
      int[][] none = {{-1, 0}, {8, 0}, {MIN, 0}, {MAX, 0}, {0, -2}, {0, 4}, {0, MIN}, {0, MAX}, {8, -1}};
      for (int[] n : none) refused("sell " + n[0] + ", " + n[1], Cases::furnished, -2, x -> x.sell(n[0], n[1]));
      PewRank x = furnished();
      x.gone(3, -1);
      due("GONE", x.sell(4, 3), -2);
      due("it stays", x.plotOf(4, 2), 2);
      due("it counts for nothing", x.count(6), 1);
    });
    test("-3: 100 times PLOTS were sold.", () -> {
      due("99 and one", hundredSales().count(6), 100);
      refused("one more", ParishCases::hundredSales, -3, x -> x.sell(0, 1));
      refused("one more to nobody", ParishCases::hundredSales, -3, x -> x.sell(0, -1));
      refused("one more, of no PLOT", ParishCases::hundredSales, -2, x -> x.sell(8, 1));
    });
  }

  private void plotOf() {
    in("Promise 10");
    test("Whose a PLOT was in a YEAR (0 .. 199)", () -> {
      range(0, 199, 0, -2, v -> {
        PewRank x = with(flat(8), 1);
        x.sell(2, 0);
        return x.plotOf(2, v);
      });
      PewRank late = years(with(flat(8), 1, 1), 199);
      late.sell(2, 1);
      due("sold in 199", late.plotOf(2, 199), 1);
      due("not in 198", late.plotOf(2, 198), -1);
    });
    test("NONE: nobody's", () -> {
      PewRank x = years(with(flat(8), 1), 1);
      x.sell(2, 0);
      due("ahead of its sale", x.plotOf(2, 0), -1);
      due("another", x.plotOf(1, 1), -1);
    });
    test("-2: there are none such.", () -> {
      range(0, 7, -1, -2, v -> new PewRank().plotOf(v, 0));
      due("neither", new PewRank().plotOf(8, 200), -2);
    });
  }

  private void householdOf() {
    in("Promise 30");
    test("0 RANK, 1 WIDTH, 2 DEAF, 3 whether it is GONE (1, 0)", () -> {
      PewRank x = new PewRank();
      x.household(99, 12, 9);
      x.household(0, 1, 0);
      x.gone(1, 0);
      int[] first = {99, 12, 9, 0};
      int[] second = {0, 1, 0, 1};
      for (int what = 0; what < 4; what++) {
        due("of the first " + what, x.householdOf(0, what), first[what]);
        due("of the second " + what, x.householdOf(1, what), second[what]);
      }
    });
    test("4 in how many YEARS it sat", () -> {
      PewRank x = with(flat(4), 4, 4);
      due("none has gone", x.householdOf(0, 4), 0);
      years(x, 3);
      due("in all", x.householdOf(0, 4), 3);
      due("in none", x.householdOf(1, 4), 0);
      x.gone(0, -1);
      years(x, 1);
      due("who is GONE has sat as often as ahead of that", x.householdOf(0, 4), 3);
      due("in the last one", x.householdOf(1, 4), 1);
    });
    test("5 how many RIGHTS it holds in this YEAR (of land, too), by what is known", () -> {
      PewRank x = with(flat(8), 1, 1);
      due("none", x.householdOf(0, 5), 0);
      x.right(0, 0, 0, 0, 1, 0, 0, false);
      x.right(0, 0, 0, 0, 1, 1, 1, false);
      x.right(0, 0, 0, 0, 1, 2, 9, false);
      x.right(1, 7, 0, 0, 1, 0, 9, false);
      x.right(1, 6, 0, 0, 1, 0, 9, false);
      x.right(0, 1, 0, 0, 1, 0, 9, false);
      due("in YEAR 0", x.householdOf(0, 5), 1);
      x.sell(7, 0);
      due("and of land", x.householdOf(0, 5), 2);
      x.go();
      due("in YEAR 1", x.householdOf(0, 5), 2);
      x.ends(1);
      due("one has ended", x.householdOf(0, 5), 1);
      due("the other's", x.householdOf(1, 5), 1);
      PewRank late = with(flat(8), 12);
      late.right(1, 7, 0, 0, 1, 199, 199, false);
      late.sell(7, 0);
      due("not yet", years(late, 198).householdOf(0, 5), 0);
      due("in 199", years(late, 1).householdOf(0, 5), 1);
    });
    test("-2 for others.", () -> {
      range(0, 3, 0, -2, v -> Math.min(0, furnished().householdOf(v, 0)));
      range(0, 5, 0, -2, v -> Math.min(0, furnished().householdOf(0, v)));
      range(0, 11, 0, -2, v -> twelve().householdOf(v, 5));
      due("ahead of any", new PewRank().householdOf(0, 0), -2);
    });
  }
}

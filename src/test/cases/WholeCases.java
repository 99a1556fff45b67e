/** Sentences of all terms and promises as a whole, by ordinary runs: what the other cases quote by its edges alone. */
final class WholeCases extends Cases {
  WholeCases(Document document) {
    super(document);
  }

  @Override
  void all() {
    calls();
    church();
    worths();
    rights();
    gone();
    seating();
    custom();
    lots();
    rings();
    sundays();
    promisesOfTerms();
    promisesOfRights();
    promisesOfSeats();
  }

  private static int at(PewRank x, int h, int year) {
    int bench = x.seat(h, year, 0);
    return bench < 0 ? -1 : bench * 100 + x.seat(h, year, 1);
  }

  private void sat(PewRank x, int year, int... spots) {
    for (int h = 0; h < spots.length; h++) due("where " + h + " sat in " + year, at(x, h, year), spots[h]);
  }

  private void calls() {
    in("What it is");
    test("An object is used for at most 512 calls after it has been made; what later calls answer is free.", () -> {
      PewRank x = new PewRank();
      due("the first call", x.bench(0, 0, 4, false), 0);
      due("the second", x.household(0, 2, 0), 0);
      for (int call = 3; call <= 201; call++) x.go();
      for (int call = 202; call <= 510; call++) x.sunday(0, 0);
      due("the last but one", x.seat(0, 198, 2), 2);
      due("the last", x.count(0), 199);
    });
  }

  private void church() {
    in("I");
    test("BENCHES 0 .., 8 at most: UNITS 0 .., UNIT u at x + u, y.", () -> {
      PewRank x = new PewRank();
      x.pulpit(13, 7, 1000);
      x.bench(10, 7, 4, false);
      x.bench(10, 8, 5, false);
      int[][] heard = {{-2, 52, 71, 90, 100, -2}, {-2, 50, 66, 83, 90, 83, -2}};
      for (int b = 0; b < 2; b++) {
        for (int u = -1; u < heard[b].length - 1; u++) due("UNIT " + u + " of " + b, x.unit(b, u, 0), heard[b][u + 1]);
      }
    });
    test("A PILLAR is in the way of a UNIT if the straight line from that to the PULPIT, ends too, meets it.", () -> {
      PewRank x = new PewRank();
      x.pulpit(10, 20, 1000);
      x.bench(8, 0, 5, false);
      x.pillar(10, 10, 0);
      for (int u = 0; u < 5; u++) due("a point, UNIT " + u, x.unit(0, u, 1), u == 2 ? 1 : 0);
      x.pillar(10, 10, 1);
      for (int u = 0; u < 5; u++) due("and a square about it, UNIT " + u, x.unit(0, u, 1), u == 2 ? 2 : 1);
      x.pulpit(60, 20, 1000);
      for (int u = 0; u < 5; u++) due("when the PULPIT stands elsewhere, UNIT " + u, x.unit(0, u, 1), 0);
    });
    test("HEARING: LOUD / (10 + d) (cut), d being the squares of both differences to the PULPIT together; that by 2 (cut) for each PILLAR in its way; of a gallery three quarters of that (cut).", () -> {
      PewRank x = new PewRank();
      x.pulpit(0, 0, 5284);
      x.bench(3, 4, 4, true);
      x.bench(3, 4, 4, false);
      due("150 of 5284 / 35", x.unit(1, 0, 0), 150);
      due("three quarters of 150", x.unit(0, 0, 0), 112);
      x.pillar(3, 4, 0);
      x.pillar(0, 0, 0);
      due("75, then 37", x.unit(1, 0, 0), 37);
      due("three quarters of 37, not a quarter of 112", x.unit(0, 0, 0), 27);
    });
  }

  private void worths() {
    in("II");
    test("HOUSEHOLDS 0 .., 12 at most: RANK, WIDTH, DEAF.", () -> {
      PewRank x = new PewRank();
      x.household(7, 3, 2);
      x.household(2, 7, 3);
      for (int what = 0; what < 3; what++) {
        due("of the first " + what, x.householdOf(0, what), new int[] {7, 3, 2}[what]);
        due("of the second " + what, x.householdOf(1, what), new int[] {2, 7, 3}[what]);
      }
    });
    test("WORTH of one for a HOUSEHOLD, as many UNITS as its WIDTH: HEARING of its UNITS together, DEAF times the greatest of these, and one for each that SEES.", () -> {
      PewRank x = sloped(8);
      x.household(5, 1, 0);
      due("one UNIT", x.worth(0, 0, 2), 71 + 1);
      x.changed(0, 5, 3, 2);
      due("three, two of them deaf", x.worth(0, 0, 2), 71 + 52 + 38 + 2 * 71 + 3);
      x.changed(0, 99, 3, 2);
      due("whatever its RANK", x.worth(0, 0, 2), 71 + 52 + 38 + 2 * 71 + 3);
    });
  }

  private void rights() {
    in("III");
    test("a KIND (0 faculty, 1 land, 2 custom, 3 rent), a holder (of land a PLOT: in each YEAR whoever's that is then), UNITS of a BENCH, the YEARS since .. until, when it came to be known, whether it goes to heirs, a PRICE (0 but by V).", () -> {
      PewRank x = years(with(flat(8), 2, 12), 3);
      x.right(0, 1, 0, 4, 1, 2, 50, true);
      x.right(1, 6, 0, 5, 2, 3, 60, false);
      x.lot(0, 7, 1, 4);
      fill(x, 0, 1, 5, 9);
      x.offers(0, 0);
      x.knock();
      int[][] told = {
        {2, 0, 0, 0, 2, 3, 199, 3, 0, 0}, {0, 1, 0, 4, 1, 2, 50, 3, 1, 0},
        {1, 6, 0, 5, 2, 3, 60, 3, 0, 0}, {3, 1, 0, 7, 1, 3, 6, 3, 0, 5}
      };
      due("four RIGHTS", x.count(4), 4);
      for (int r = 0; r < 4; r++) {
        for (int what = 0; what < 10; what++) due("of " + r + " " + what, x.rightOf(r, what), told[r][what]);
      }
    });
    test("A UNIT belongs in a YEAR to the holder of the best RIGHT that is for that YEAR, known by then, and has a holder (in that YEAR).", () -> {
      PewRank x = with(flat(4), 12, 12, 12);
      x.right(3, 0, 0, 0, 4, 0, 9, false);
      x.right(1, 2, 0, 0, 2, 2, 5, false);
      years(x, 2);
      x.right(0, 2, 0, 0, 1, 4, 4, false);
      due("land of nobody's PLOT: rent", x.belongs(0, 0, 3, 2, 0), 0);
      x.sell(2, 1);
      int[] whose = {0, 0, 1, 1, 2, 1, 0, 0, 0, 0, -1};
      for (int y = 0; y <= 10; y++) due("UNIT 0 in YEAR " + y, x.belongs(0, 0, y, 2, 0), whose[y]);
      due("ahead of what came to be known in YEAR 2", x.belongs(0, 0, 4, 1, 0), 1);
      due("UNIT 1", x.belongs(0, 1, 4, 2, 0), 1);
      due("UNIT 2", x.belongs(0, 2, 4, 2, 0), 0);
    });
  }

  private void gone() {
    test("When a HOUSEHOLD is GONE all RIGHTS that it holds itself (none of land) and that are for this YEAR or later ones end with the last YEAR", () -> {
      PewRank x = with(flat(8), 12, 12);
      x.sell(0, 0);
      x.right(0, 0, 0, 0, 1, 0, 1, false);
      x.right(0, 0, 0, 1, 1, 0, 3, false);
      x.right(3, 0, 0, 2, 1, 5, 9, false);
      x.right(1, 0, 0, 3, 1, 0, 9, false);
      x.right(2, 1, 0, 4, 1, 0, 9, false);
      years(x, 3);
      due("none to an heir", x.gone(0, -1), 0);
      int[] until = {1, 2, 2, 9, 9};
      for (int r = 0; r < 5; r++) due("until when RIGHT " + r + " goes", x.rightOf(r, 6), until[r]);
      int[] whose = {-1, -1, -1, -1, 1};
      for (int u = 0; u < 5; u++) due("whose UNIT " + u + " is", x.belongs(0, u, 5, 3, 0), whose[u]);
    });
  }

  private void seating() {
    in("IV");
    test("A YEAR's SEATING, by all that is known. First by rights: HOUSEHOLDS that are not GONE, the greatest RANK first, then the least number: each sits, if it can, on the RUN of its WIDTH of UNITS all of which belong to it and nobody sits on, of the greatest WORTH, then of the least BENCH, then UNIT.", () -> {
      PewRank x = sloped(8);
      x.household(1, 2, 0);
      x.household(7, 2, 0);
      x.household(7, 3, 0);
      x.right(2, 0, 0, 1, 4, 0, 199, false);
      x.right(2, 1, 0, 5, 1, 0, 199, false);
      x.go();
      // 0 by its right; 1 has one unit alone, and like 2 finds no run of nobody's but units 6 and 7
      sat(x, 0, 1, 6, -1);
      due("by a RIGHT", x.seat(0, 0, 3) * 10 + x.seat(1, 0, 3), 10);
      x.ends(0);
      x.right(0, 2, 0, 2, 3, 1, 1, false);
      x.go();
      // what ended and what was told in this year is known: 2 by its right, 1 ahead of 0 on units 0 and 1
      sat(x, 1, 6, 0, 2);
      due("by a RIGHT", x.seat(2, 1, 3) * 10 + x.seat(1, 1, 3), 10);
    });
    test("Then by rank: all others, in the same order, one behind the other: all UNITS that belong to nobody, by BENCHES, then UNITS, are gone along; each gets a RUN of them behind that of the one ahead of it that got one, or none", () -> {
      PewRank x = flat(4, 4);
      x.household(1, 2, 0);
      x.household(9, 3, 0);
      x.household(5, 4, 0);
      x.household(5, 1, 0);
      // 9 is ahead, then 5 and 5 by numbers, then 1: 30 + 24 with all of bench 1, or 30 + 6 + 4
      x.go();
      sat(x, 0, -1, 0, 100, -1);
      x.changed(2, 4, 4, 0);
      // now 3 is ahead of 2: 30 + 6 + 20
      x.go();
      sat(x, 1, -1, 0, 100, 3);
    });
  }

  private void custom() {
    test("As the YEAR goes by they sit so. Then who has sat in each of the USE YEARS that went by latest (with this one) on the same RUN", () -> {
      PewRank x = sloped(8);
      x.terms(2, 10);
      x.household(3, 2, 1);
      x.household(4, 1, 0);
      long worth = x.beside(0);
      due("as many as would sit", x.go(), 2);
      due("with that WORTH", x.seat(0, 0, 4) * 4 + x.seat(1, 0, 4) * 5, worth);
      due("no custom yet", x.count(4), 0);
      x.changed(1, 4, 1, 9);
      x.go();
      due("both on their RUNS again", x.moved(0, 1), 0);
      due("two customs", x.count(4), 2);
      x.go();
      due("by RIGHTS now", x.seat(0, 2, 3) + x.seat(1, 2, 3), 2);
      due("none comes of that", x.count(4), 2);
    });
  }

  private void lots() {
    in("V");
    test("KNOCKED DOWN: each LOT goes to one HOUSEHOLD at most that offers more than 0 for it, each of these gets one LOT at most; of all ways that of the greatest sum of what is offered", () -> {
      PewRank x = with(flat(8), 12, 12, 12);
      int[][] offers = {{6, 5, 4}, {6, 3, 0}};
      for (int lot = 0; lot < 2; lot++) {
        x.lot(0, lot, 1, 1);
        fill(x, 0, 1, offers[lot][0], offers[lot][1], offers[lot][2]);
        x.offers(lot, 0);
      }
      x.knock();
      int[] got = {1, 0, -1};
      for (int h = 0; h < 3; h++) due("the LOT of " + h, x.knocked(h, 0), got[h]);
      due("6 and 5", x.knocked(0, 2), 11);
    });
    test("Who gets one pays what the others would have offered together without it (the greatest sum of all ways of the others), less what they do; that comes into the fund", () -> {
      PewRank x = with(flat(8), 12, 12, 12);
      int[][] offers = {{6, 5, 4}, {6, 3, 0}};
      for (int lot = 0; lot < 2; lot++) {
        x.lot(0, lot, 1, 1);
        fill(x, 0, 1, offers[lot][0], offers[lot][1], offers[lot][2]);
        x.offers(lot, 0);
      }
      // without 0: 3 and 4, less 5; without 1: 6 and 4, less 6; without 2 nothing changes
      due("both prices", x.knock(), 2 + 4);
      int[] paid = {2, 4, 0};
      for (int h = 0; h < 3; h++) due("what " + h + " paid", x.knocked(h, 1), paid[h]);
      due("the fund", x.fund(), 6);
    });
  }

  private void rings() {
    in("VI");
    test("CHANGE: each of those who sat looks at the one of them (itself, too) on whose RUN, the first UNITS of it, as many as its own WIDTH is now, WORTH is greatest for it", () -> {
      PewRank x = sloped(12);
      int[][] fromWidth = {{0, 1}, {2, 3}, {6, 4}};
      for (int[] run : fromWidth) x.right(0, x.household(0, run[1], 0), 0, run[0], run[1], 0, 199, false);
      x.go();
      x.changed(0, 0, 4, 0);
      x.changed(1, 0, 3, 0);
      x.changed(2, 0, 1, 0);
      // 0 needs four units, and 2 alone has them; 2 needs one, and 0's is the best; 1 has the best three
      due("two", x.change(7), 2);
      int[] to = {2, 1, 0};
      for (int h = 0; h < 3; h++) due("to whose RUN " + h + " would go", x.changedTo(h), to[h]);
    });
  }

  private void sundays() {
    in("VII");
    test("A SUNDAY: a number of 0 or more is a HOUSEHOLD, one below 0 a stranger with so many UNITS (RANK 0, DEAF 0).", () -> {
      PewRank x = new PewRank();
      x.pulpit(0, 0, 1000);
      x.bench(0, 0, 4, true);
      x.bench(0, 3, 4, false);
      x.household(10, 2, 0);
      x.household(9, 1, 0);
      fill(x, 0, 0, -3, 0, -2, 1);
      due("nobody stands", x.sunday(0, 0), 0);
      // a stranger of three, and whoever is below LOW, in the gallery; RANK 10 is not for it
      int[] spots = {0, 100, 102, 3};
      for (int i = 0; i < 4; i++) due("where " + i + " sat", x.sat(i), spots[i]);
    });
    test("Who comes ahead of the bell: a HOUSEHOLD sits on its RUN of the latest YEAR's SEATING, if it sat there, as many UNITS are its WIDTH now, and nobody sits on them; else, and a stranger, on the best RUN of UNITS that belong to nobody and are on no such RUN of anybody (that is not GONE).", () -> {
      PewRank x = with(sloped(12), 2, 2, 2);
      x.right(0, 1, 0, 8, 1, 0, 199, false);
      x.go();
      // they sat on 0, 2 and 4; unit 8 is another's
      fill(x, 0, 0, 2, -2, -2, 0);
      due("a stranger on 6, another behind what is not nobody's", x.sunday(0, 60), 0);
      int[] spots = {4, 6, 9, 0};
      for (int i = 0; i < 4; i++) due("where " + i + " sat", x.sat(i), spots[i]);
      x.gone(1, -1);
      fill(x, 0, 0, -2, 2, 0);
      x.sunday(0, 60);
      int[] free = {2, 4, 0};
      for (int i = 0; i < 3; i++) due("one being GONE, where " + i + " sat", x.sat(i), free[i]);
    });
  }

  private void promisesOfTerms() {
    in("Promise 3");
    test("USE (2 .. 30) and LOW (0 .. 100): 0.", () -> {
      PewRank x = new PewRank();
      x.bench(0, 0, 4, true);
      x.household(4, 1, 0);
      due("both", x.terms(2, 4), 0);
      due("LOW", x.beside(1), 0);
      due("both again", x.terms(2, 5), 0);
      due("another LOW", x.beside(1), 1);
      years(x, 2);
      due("USE", x.count(4), 1);
    });
    in("Promise 30");
    test("Of a HOUSEHOLD: 0 RANK, 1 WIDTH, 2 DEAF, 3 whether it is GONE (1, 0), 4 in how many YEARS it sat, 5 how many RIGHTS it holds in this YEAR (of land, too), by what is known.", () -> {
      PewRank x = with(flat(8), 3);
      x.sell(2, 0);
      x.right(1, 2, 0, 0, 8, 0, 4, false);
      x.right(0, 0, 0, 0, 8, 2, 4, true);
      years(x, 2);
      x.changed(0, 6, 12, 1);
      x.go();
      int[] told = {6, 12, 1, 0, 2, 2};
      for (int what = 0; what < 6; what++) due("of it " + what, x.householdOf(0, what), told[what]);
      x.gone(0, -1);
      due("GONE, without RIGHTS", x.householdOf(0, 3) * 10 + x.householdOf(0, 5), 10);
    });
    in("Promise 31");
    test("Of a BENCH: 0 x, 1 y, 2 UNITS, 3 whether it is a gallery (1, 0), 4 UNITS that belong to somebody in this YEAR, 5 to nobody.", () -> {
      PewRank x = with(flat(8), 12);
      x.bench(9, 14, 6, true);
      x.right(0, 0, 1, 1, 2, 0, 0, false);
      x.right(3, 0, 1, 2, 2, 0, 9, false);
      int[] told = {9, 14, 6, 1, 3, 3};
      for (int what = 0; what < 6; what++) due("of it " + what, x.benchOf(1, what), told[what]);
      x.go();
      due("in the next YEAR", x.benchOf(1, 4) * 10 + x.benchOf(1, 5), 24);
    });
  }

  private void promisesOfRights() {
    in("Promise 8");
    test("A HOUSEHOLD is GONE from this YEAR on; its heir (NONE: none) has what goes to heirs (III): how many RIGHTS that are.", () -> {
      PewRank x = with(flat(8), 2, 12);
      x.right(0, 0, 0, 4, 2, 0, 9, true);
      x.right(2, 0, 0, 6, 2, 0, 9, false);
      x.go();
      due("one RIGHT", x.gone(0, 1), 1);
      due("it had sat", x.seat(0, 0, 1), 4);
      x.go();
      due("it sits no more", x.seat(0, 1, 1), -1);
      due("the heir's", x.belongs(0, 4, 1, 1, 0) * 10 + x.rightOf(2, 1), 11);
      due("nobody's", x.belongs(0, 6, 1, 1, 0), -1);
    });
    in("Promise 13");
    test("Of a RIGHT: 0 KIND, 1 holder, 2 BENCH, 3 first UNIT, 4 UNITS, 5 since, 6 until", () -> {
      PewRank x = with(flat(8, 8), 1, 1, 1);
      x.right(2, 1, 1, 3, 4, 5, 6, false);
      int[] told = {2, 1, 1, 3, 4, 5, 6};
      for (int what = 0; what < 7; what++) due("of it " + what, x.rightOf(0, what), told[what]);
    });
    in("Promise 17");
    test("A quarrel of two HOUSEHOLDS about a UNIT in a YEAR, by what was known at the end of a YEAR (whose a PLOT is as belongs()): which of them has the better RIGHT (III); NONE: neither has one", () -> {
      PewRank x = with(flat(4), 12, 12, 12);
      x.right(0, 2, 0, 0, 4, 0, 199, false);
      x.right(3, 0, 0, 0, 4, 0, 199, false);
      x.go();
      x.right(2, 1, 0, 1, 1, 0, 0, false);
      due("as was known in YEAR 0", x.judge(0, 1, 0, 1, 0, 0), 0);
      due("as is known in YEAR 1", x.judge(0, 1, 0, 1, 0, 1), 1);
      due("about YEAR 1", x.judge(0, 1, 0, 1, 1, 1), 0);
      due("about another UNIT", x.judge(0, 1, 0, 2, 0, 1), 0);
      due("with whom it is", x.judge(1, 2, 0, 1, 0, 1), 2);
    });
    in("Promise 18");
    test("A LOT is put up: UNITS of a BENCH, for so many YEARS (1 .. 30) from this one on: its number.", () -> {
      PewRank x = with(flat(4, 8), 12);
      due("the first", x.lot(0, 3, 1, 5), 0);
      due("the second", x.lot(1, 2, 4, 3), 1);
      due("two are up", x.count(5), 2);
      fill(x, 0, 0, 1);
      x.offers(1, 0);
      x.knock();
      int[] units = {-1, -1, 0, 0, 0, 0, -1, -1};
      for (int u = 0; u < 8; u++) due("UNIT " + u, x.belongs(1, u, 2, 0, 0), units[u]);
      due("the first YEAR behind it", x.belongs(1, 2, 3, 0, 0), -1);
    });
    in("Promise 19");
    test("What HOUSEHOLDS offer for a LOT are the numbers of the row of a PLACE, by HOUSEHOLDS", () -> {
      PewRank x = with(flat(4), 12, 12, 12);
      x.lot(0, 0, 1, 1);
      fill(x, 2, 1, 30, 70, 50);
      due("three offer", x.offers(0, 2), 3);
      x.write(2, 0, 999);
      x.tear(2);
      due("as the row was then", x.knock(), 50);
      due("HOUSEHOLD 1", x.knocked(1, 0) * 1000 + x.knocked(1, 2), 70);
    });
  }

  private void promisesOfSeats() {
    in("Promise 22");
    test("Those of a set of HOUSEHOLDS who sat in the YEAR that went by latest, and are not GONE, change RUNS (VI), as a thought alone: how many would sit elsewhere.", () -> {
      PewRank x = sloped(8);
      x.household(2, 2, 0);
      x.household(1, 1, 0);
      x.household(0, 12, 0);
      x.go();
      due("the first has the best", x.change(7), 0);
      x.changed(1, 1, 2, 0);
      due("1 needs two, and finds 0's alone", x.change(7), 0);
      x.changed(0, 2, 1, 0);
      x.pulpit(2, 0, 1000);
      due("0 needs one, and hears best on 1's", x.change(7), 2);
      due("nobody moved", at(x, 0, 0) * 10 + at(x, 1, 0), 2);
    });
    in("Promise 24");
    test("A Sunday of this YEAR (VII): those of the row of a PLACE come one by one", () -> {
      PewRank x = with(flat(4), 12);
      x.right(0, 0, 0, 0, 2, 1, 1, false);
      fill(x, 1, 2, -2, -2);
      int[] stand = {0, 1, 0};
      for (int y = 0; y < 3; y++) {
        due("in YEAR " + y, x.sunday(1, 60), stand[y]);
        x.go();
      }
    });
    in("Promise 27");
    test("Where a HOUSEHOLD sat in a YEAR that has gone: what 0 the BENCH, 1 the first UNIT, 2 how many UNITS", () -> {
      PewRank x = with(flat(4, 8), 3, 3);
      x.go();
      x.changed(0, 0, 4, 0);
      x.go();
      int[][] told = {{0, 0, 3}, {1, 0, 3}, {0, 0, 4}, {1, 0, 3}};
      for (int i = 0; i < 4; i++) {
        for (int what = 0; what < 3; what++) due("of " + i % 2 + " in " + i / 2, x.seat(i % 2, i / 2, what), told[i][what]);
      }
    });
  }
}

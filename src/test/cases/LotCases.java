/** Term V; lot, offers, knock, knocked, fund. */
final class LotCases extends Cases {
  LotCases(Document document) {
    super(document);
  }

  @Override
  void all() {
    ways();
    prices();
    rents();
    lot();
    offers();
    knock();
    knocked();
    fund();
  }

  /** Households that are too wide to sit, and lots of a YEAR each: the offers for each lot by households. */
  private static PewRank bidding(int households, int[]... offers) {
    PewRank x = flat(8);
    for (int h = 0; h < households; h++) x.household(0, 12, 0);
    return bid(x, offers);
  }

  private static PewRank bid(PewRank x, int[]... offers) {
    for (int[] some : offers) {
      int lot = x.lot(0, 0, 2, 1);
      offer(x, lot, some);
    }
    return x;
  }

  private static int offer(PewRank x, int lot, int... offers) {
    x.row(3, 2, offers.length);
    for (int h = 0; h < offers.length; h++) x.write(3, h, offers[h]);
    return x.offers(lot, 3);
  }

  private void got(PewRank x, int... lots) {
    for (int h = 0; h < lots.length; h++) due("the LOT of HOUSEHOLD " + h, x.knocked(h, 0), lots[h]);
  }

  private void paid(PewRank x, int... prices) {
    for (int h = 0; h < prices.length; h++) due("what HOUSEHOLD " + h + " paid", x.knocked(h, 1), prices[h]);
  }

  private void ways() {
    in("V");
    test("each LOT goes to one HOUSEHOLD at most that offers more than 0 for it", () -> {
      PewRank x = bidding(3, new int[] {0, 1, 0}, new int[] {0, 0, 0});
      due("what comes in", x.knock(), 0);
      got(x, -1, 0, -1);
      due("one RIGHT", x.count(4), 1);
      PewRank one = bidding(3, new int[] {3, 4, 4});
      one.knock();
      got(one, -1, 0, -1);
    });
    test("each of these gets one LOT at most", () -> {
      PewRank x = bidding(2, new int[] {10000, 0}, new int[] {10000, 0}, new int[] {10000, 1});
      x.knock();
      got(x, 0, 2);
      due("two RIGHTS for three LOTS", x.count(4), 2);
    });
    test("of all ways that of the greatest sum of what is offered", () -> {
      PewRank x = bidding(2, new int[] {10, 8}, new int[] {9, 1});
      x.knock();
      got(x, 1, 0);
      due("the sum", x.knocked(0, 2), 17);
      PewRank all = bidding(12, new int[][] {
        {0, 0, 0, 0, 0, 0, 0, 0, 0, 0, 0, 9}, {0, 0, 0, 0, 0, 0, 0, 0, 0, 0, 9, 9}, {0, 0, 0, 0, 0, 0, 0, 0, 0, 9, 9, 0},
        {0, 0, 0, 0, 0, 0, 0, 0, 9, 9, 0, 0}, {0, 0, 0, 0, 0, 0, 0, 9, 9, 0, 0, 0}, {0, 0, 0, 0, 0, 0, 9, 9, 0, 0, 0, 0},
        {0, 0, 0, 0, 0, 9, 9, 0, 0, 0, 0, 0}, {0, 0, 0, 0, 9, 9, 0, 0, 0, 0, 0, 8}});
      all.knock();
      got(all, -1, -1, -1, -1, 7, 6, 5, 4, 3, 2, 1, 0);
      due("eight LOTS", all.knocked(0, 2), 72);
    });
    test("of several: HOUSEHOLD 0 gets the least LOT that can be (none behind all), then 1, ..", () -> {
      PewRank alike = bidding(3, new int[] {5, 5, 5}, new int[] {5, 5, 5});
      alike.knock();
      got(alike, 0, 1, -1);
      // 3 and 3, or 5 and 1: the least LOT, though 0 offers less for it
      PewRank least = bidding(2, new int[] {3, 1}, new int[] {5, 3});
      least.knock();
      got(least, 0, 1);
      PewRank none = bidding(2, new int[] {7, 7});
      none.knock();
      got(none, 0, -1);
      PewRank then = bidding(4, new int[] {9, 0, 0, 0}, new int[] {0, 0, 4, 4});
      then.knock();
      got(then, 0, -1, 1, -1);
      // 0 can't have LOT 0, for which 1 alone offers much
      PewRank cannot = bidding(2, new int[] {1, 9}, new int[] {1, 0}, new int[] {1, 0});
      cannot.knock();
      got(cannot, 1, 0);
    });
  }

  private void prices() {
    test("pays what the others would have offered together without it (the greatest sum of all ways of the others), less what they do", () -> {
      PewRank alone = bidding(1, new int[] {10000});
      due("alone", alone.knock(), 0);
      paid(alone, 0);
      PewRank second = bidding(3, new int[] {10, 30, 20});
      due("the second offer", second.knock(), 20);
      paid(second, 0, 20, 0);
      PewRank least = bidding(3, new int[] {1, 2, 0});
      due("an offer of 1", least.knock(), 1);
      paid(least, 0, 1, 0);
      PewRank equal = bidding(2, new int[] {10000, 10000});
      due("all that it offers", equal.knock(), 10000);
      paid(equal, 10000, 0);
      // 0 has LOT 1 (9), 1 has LOT 0 (8): without 0 the others have 8 and 2, less 8; without 1, 10 and 2, less 9
      PewRank chain = bidding(3, new int[] {10, 8, 0}, new int[] {9, 1, 2});
      due("by chains", chain.knock(), 2 + 3);
      paid(chain, 2, 3, 0);
      PewRank spare = bidding(2, new int[] {6, 5}, new int[] {6, 5});
      due("nobody loses where there are LOTS enough", spare.knock(), 0);
      paid(spare, 0, 0);
    });
    test("that comes into the fund, and is the PRICE of a RIGHT of rent to the LOT", () -> {
      PewRank x = flat(8, 6);
      for (int h = 0; h < 3; h++) x.household(0, 12, 0);
      x.lot(1, 2, 4, 7);
      offer(x, 0, 10, 30, 20);
      x.knock();
      due("the fund", x.fund(), 20);
      int[] rent = {3, 1, 1, 2, 4, 0, 6, 0, 0, 20};
      for (int what = 0; what < 10; what++) due("of the rent " + what, x.rightOf(0, what), rent[what]);
      due("its last YEAR", x.belongs(1, 5, 6, 0, 0), 1);
      due("behind it", x.belongs(1, 5, 7, 0, 0), -1);
    });
  }

  /** Until when rent goes that is knocked down in a YEAR for so many YEARS. */
  private static int rentUntil(int year, int forYears) {
    PewRank x = years(with(flat(8), 12), year);
    x.lot(0, 0, 1, forYears);
    offer(x, 0, 1);
    x.knock();
    return x.rightOf(0, 6);
  }

  private void rents() {
    test("since this YEAR, for its YEARS (until 199 at most), known now, not to heirs", () -> {
      int[][] yearsUntil = {{0, 1, 0}, {0, 30, 29}, {169, 30, 198}, {170, 30, 199}, {171, 30, 199}, {198, 1, 198}, {198, 2, 199}, {199, 1, 199}, {199, 30, 199}};
      for (int[] yu : yearsUntil) due("in YEAR " + yu[0] + " for " + yu[1], rentUntil(yu[0], yu[1]), yu[2]);
      PewRank x = years(with(flat(8), 12, 12), 3);
      x.lot(0, 0, 1, 9);
      offer(x, 0, 1);
      x.knock();
      due("since, known", x.rightOf(0, 5) * 10 + x.rightOf(0, 7), 33);
      due("in this YEAR", x.belongs(0, 0, 3, 3, 0), 0);
      due("not in the YEAR ahead", x.belongs(0, 0, 2, 3, 0), -1);
      due("not by what was known then", x.belongs(0, 0, 3, 2, 0), -1);
      due("not to heirs", x.gone(0, 1), 0);
    });
    test("by HOUSEHOLDS", () -> {
      PewRank x = bidding(3, new int[] {0, 0, 9}, new int[] {0, 9, 0}, new int[] {9, 0, 0});
      x.knock();
      for (int r = 0; r < 3; r++) due("the holder of RIGHT " + r, x.rightOf(r, 1), r);
    });
  }

  private static PewRank eightLots() {
    PewRank x = with(flat(8, 4), 1, 1);
    for (int i = 0; i < 8; i++) x.lot(0, i, 1, 1);
    return x;
  }

  private void lot() {
    in("Promise 18");
    test("for so many YEARS (1 .. 30) from this one on: its number", () -> {
      range(1, 30, 0, -2, v -> flat(8).lot(0, 0, 1, v));
      PewRank x = flat(8);
      for (int i = 0; i < 8; i++) due("the same again, " + i, x.lot(0, 0, 8, 30), i);
    });
    test("-2: there are none such, other YEARS", () -> {
      range(0, 1, 0, -2, v -> flat(8, 4).lot(v, 0, 1, 1));
      range(0, 7, 0, -2, v -> flat(8, 4).lot(0, v, 1, 1));
      range(0, 3, 0, -2, v -> flat(8, 4).lot(1, v, 1, 1));
      range(1, 8, 0, -2, v -> flat(8, 4).lot(0, 0, v, 1));
      range(1, 2, 0, -2, v -> flat(8, 4).lot(0, 6, v, 1));
      due("from and UNITS that run over", flat(8).lot(0, MAX, MAX, 1), -2);
      refused("no YEARS", Cases::furnished, -2, x -> x.lot(0, 0, 1, 0));
    });
    test("-3: there are 8.", () -> {
      refused("a ninth", LotCases::eightLots, -3, x -> x.lot(0, 0, 1, 1));
      refused("a ninth, not as told", LotCases::eightLots, -2, x -> x.lot(0, 8, 1, 1));
      PewRank x = eightLots();
      x.knock();
      due("when they are no more", x.lot(0, 0, 1, 1), 0);
      PewRank later = eightLots();
      later.go();
      due("they stay when a YEAR goes by", later.lot(0, 0, 1, 1), -3);
    });
  }

  private void offers() {
    in("Promise 19");
    test("by HOUSEHOLDS (those without a number, or GONE: 0): how many offers above 0 are there", () -> {
      PewRank x = with(flat(8), 12, 12, 12);
      x.lot(0, 0, 1, 1);
      due("an empty row", offer(x, 0), 0);
      due("the first has a number", offer(x, 0, 7), 1);
      due("of 0", offer(x, 0, 0, 7), 1);
      due("the least", offer(x, 0, 1, 0, 1), 2);
      due("all", offer(x, 0, 7, 7, 7), 3);
      due("more numbers than HOUSEHOLDS", offer(x, 0, 7, 7, 0, 7, 7), 2);
      x.row(3, 1, 60);
      for (int i = 0; i < 60; i++) x.write(3, i, 10000);
      due("the longest row", x.offers(0, 3), 3);
      x.gone(1, -1);
      due("one is GONE", x.offers(0, 3), 2);
      due("in place of the earlier ones", offer(x, 0, 0, 9, 4), 1);
      due("for another LOT that is none", offer(x, 1, 9), -2);
      x.knock();
      got(x, -1, -1, 0);
      PewRank nobody = flat(8);
      nobody.lot(0, 0, 1, 1);
      due("there are no HOUSEHOLDS", offer(nobody, 0, 7, 7), 0);
      due("nobody gets it", nobody.knock(), 0);
    });
    test("or GONE: 0", () -> {
      PewRank x = bidding(3, new int[] {9, 5, 3});
      x.gone(0, 1);
      due("GONE when it is knocked down", x.knock(), 3);
      got(x, -1, 0, -1);
      PewRank all = eightLots();
      for (int lot = 0; lot < 8; lot++) offer(all, lot, 5, lot);
      due("with eight LOTS that are up", all.gone(0, -1), 0);
      due("one offers", all.knock(), 0);
      got(all, -1, 7);
    });
    test("-2: there are none such", () -> {
      range(0, 1, 2, -2, v -> {
        PewRank x = bidding(2, new int[] {}, new int[] {});
        fill(x, 0, 1, 5, 6);
        return x.offers(v, 0);
      });
      range(0, 3, 2, -2, v -> {
        PewRank x = bidding(2, new int[] {});
        for (int place = 0; place < 4; place++) fill(x, place, 1, 5, 6);
        return x.offers(0, v);
      });
      range(0, 7, 1, -2, v -> offer(eightLots(), v, 0, 1));
      PewRank none = new PewRank();
      due("ahead of any LOT, and the PLACE has nothing", none.offers(0, 0), -2);
    });
    test("-5: the PLACE has nothing", () -> {
      refused("never had", Cases::furnished, -5, x -> x.offers(0, 2));
      PewRank x = furnished();
      x.tear(0);
      due("torn", x.offers(0, 0), -5);
    });
    test("-4, and nothing happens: a number is not 0 .. 10000.", () -> {
      range(0, 10000, 0, -4, v -> Math.min(0, offer(bidding(2, new int[] {}), 0, v)));
      int[][] wrong = {{10001, 1, 1}, {1, 1, 10001}, {1, -1, 1}, {1, 1, 1, -1}, {1, 1, 1, 1, 1, 1, 1, 1, 1, 1, 1, 1, 10001}};
      for (int[] numbers : wrong) {
        PewRank x = bidding(3, new int[] {2, 8, 5});
        due("one of " + numbers.length, offer(x, 0, numbers), -4);
        due("what was offered stands", x.knock(), 5);
        due("and who got it", x.knocked(1, 0), 0);
      }
      PewRank cut = bidding(1, new int[] {});
      fill(cut, 0, 3, (1L << 32) + 5);
      due("one that would fit if it were cut", cut.offers(0, 0), -4);
      fill(cut, 0, 3, Long.MIN_VALUE);
      due("the least of all", cut.offers(0, 0), -4);
    });
  }

  /** Three who offer for two lots, and so many rights ahead of them. */
  private static PewRank crowded(int rights) {
    PewRank x = with(flat(8), 12, 12, 12);
    for (int r = 0; r < rights; r++) x.right(3, 0, 0, 7, 1, 0, 0, false);
    return bid(x, new int[] {4, 5, 6}, new int[] {4, 5, 6});
  }

  private void knock() {
    in("Promise 20");
    test("The LOTS are knocked down (V), and are no more: what comes in.", () -> {
      PewRank x = crowded(0);
      due("two that pay 4 each", x.knock(), 8);
      due("no LOTS", x.count(5), 0);
      due("none to offer for", offer(x, 0, 1), -2);
      x.lot(0, 0, 1, 1);
      due("a new LOT has no offers", x.knock(), 0);
      due("so nobody gets it", x.knocked(1, 0), -1);
    });
    test("NONE: there are none", () -> {
      due("on a new object", new PewRank().knock(), -1);
      PewRank x = crowded(0);
      x.knock();
      refused("after they were knocked down", () -> {
        PewRank y = crowded(0);
        y.knock();
        return y;
      }, -1, PewRank::knock);
      due("the latest that told a sum stays", x.knock() * 100 + x.knocked(1, 1), -96);
    });
    test("-3: there are not so many numbers left for RIGHTS.", () -> {
      due("two numbers for two", crowded(98).knock(), 8);
      refused("one number for two", () -> crowded(99), -3, PewRank::knock);
      PewRank x = crowded(99);
      x.knock();
      due("the fund", x.fund(), 0);
      due("the LOTS stay", x.count(5), 2);
      due("knocked tells nothing", x.knocked(1, 0), -2);
      offer(x, 0, 0, 0, 0);
      due("one number for one", x.knock(), 5);
      x.lot(0, 0, 1, 1);
      due("no number, nobody offers", x.knock(), 0);
      x.lot(0, 0, 1, 1);
      offer(x, 0, 1);
      due("no number for one", x.knock(), -3);
    });
  }

  private void knocked() {
    in("Promise 21");
    test("Of the latest knock() that told a sum: which LOT a HOUSEHOLD got (what 0; NONE), what it paid (1; 0), the sum of all that was offered by those who got one (2).", () -> {
      PewRank x = bidding(3, new int[] {10, 30, 20}, new int[] {0, 15, 0});
      // without 2 the one alone would have had 30, and now has 15
      due("what comes in", x.knock(), 15);
      got(x, -1, 1, 0);
      paid(x, 0, 0, 15);
      for (int h = 0; h < 3; h++) due("the sum, asked of " + h, x.knocked(h, 2), 35);
    });
    test("the latest knock() that told a sum", () -> {
      PewRank x = bidding(2, new int[] {10, 30});
      x.knock();
      due("one that told none", x.knock(), -1);
      due("the earlier one counts", x.knocked(1, 1), 10);
      x.lot(0, 0, 1, 1);
      due("it goes on to count while LOTS are put up", x.knocked(1, 0), 0);
      x.go();
      x.gone(1, -1);
      due("and for one that is GONE", x.knocked(1, 2), 30);
      due("a sum of 0 is a sum", x.knock(), 0);
      got(x, -1, -1);
      paid(x, 0, 0);
      due("nothing was offered", x.knocked(0, 2), 0);
      due("a HOUSEHOLD that is new since", x.knocked(x.household(0, 1, 0), 0), -1);
    });
    test("-2 for others, and ahead of any.", () -> {
      range(0, 3, 0, -2, v -> Math.min(0, furnished().knocked(v, 2)));
      range(0, 2, 0, -2, v -> Math.min(0, furnished().knocked(2, v)));
      range(0, 11, 1, -2, v -> {
        PewRank twelve = bidding(12, new int[] {1});
        twelve.knock();
        return twelve.knocked(v, 2);
      });
      PewRank x = with(flat(8), 1);
      for (int what = 0; what < 3; what++) due("ahead of any, " + what, x.knocked(0, what), -2);
      x.lot(0, 0, 1, 1);
      due("with LOTS that are up", x.knocked(0, 0), -2);
    });
  }

  private void fund() {
    in("Promise 33");
    test("What came into the fund in all.", () -> {
      PewRank x = new PewRank();
      due("nothing yet", x.fund(), 0);
      x.knock();
      due("nothing by a knock() that told no sum", x.fund(), 0);
      int[] all = {10000, 10000, 10000, 10000, 10000, 10000, 10000, 10000, 10000, 10000, 10000, 10000};
      PewRank most = bidding(12, all, all, all, all, all, all, all, all);
      due("eight LOTS at the most", most.knock(), 80000);
      due("in the fund", most.fund(), 80000);
      bid(most, new int[] {7, 8});
      most.knock();
      due("and more", most.fund(), 80007);
      most.go();
      due("when a YEAR has gone", most.fund(), 80007);
    });
  }
}

/** Term VII; sunday, sat. */
final class SundayCases extends Cases {
  SundayCases(Document document) {
    super(document);
  }

  @Override
  void all() {
    whoComes();
    ownRuns();
    aheadOfTheBell();
    fromTheBellOn();
    bestRuns();
    sunday();
    sundayRefused();
    sat();
  }

  /** Those numbers come, the bell behind so many: how many stand. */
  private static int come(PewRank x, int bell, long... numbers) {
    fill(x, 3, 3, numbers);
    return x.sunday(3, bell);
  }

  private void at(PewRank x, int... spots) {
    for (int i = 0; i < spots.length; i++) due("where number " + i + " sat", x.sat(i), spots[i]);
  }

  private void whoComes() {
    in("VII");
    test("one below 0 a stranger with so many UNITS (RANK 0, DEAF 0)", () -> {
      PewRank x = flat(12);
      due("of 12 UNITS", come(x, 0, -12), 0);
      due("and no place for one of 1", come(x, 0, -12, -1), 1);
      due("of 1 UNIT, and 11", come(x, 0, -1, -11), 0);
      at(x, 0, 1);
      due("a bench too short by one", come(flat(11), 0, -12), 1);
      PewRank gallery = new PewRank();
      gallery.bench(0, 0, 4, true);
      gallery.terms(3, 1);
      due("LOW 1: a gallery is for RANK 0", come(gallery, 0, -1), 0);
      gallery.terms(3, 0);
      due("LOW 0: it is not", come(gallery, 0, -1), 1);
      PewRank deaf = deafOrNot();
      due("DEAF 0", come(deaf, 0, -2), 0);
      at(deaf, 100);
      due("DEAF 9", come(deaf, 0, 0), 0);
      at(deaf, 0);
    });
  }

  /** The best two for nine DEAF hear 100 and 11 (its pillars), those for none 66 and 55. */
  private static PewRank deafOrNot() {
    PewRank x = new PewRank();
    x.pulpit(0, 0, 1000);
    x.bench(0, 0, 4, false);
    x.bench(1, 2, 4, false);
    for (int p = 0; p < 3; p++) x.pillar(1, 0, 0);
    x.household(0, 2, 9);
    return x;
  }

  private void ownRuns() {
    test("a HOUSEHOLD sits on its RUN of the latest YEAR's SEATING, if it sat there, as many UNITS are its WIDTH now, and nobody sits on them", () -> {
      PewRank x = with(flat(8), 2, 2);
      due("no YEAR has gone: the best", come(x, 2, 1, 0), 0);
      at(x, 0, 2);
      x.go();
      due("its own", come(x, 2, 1, 0), 0);
      at(x, 2, 0);
      x.changed(1, 0, 1, 0);
      due("narrower now: what is on nobody's RUN", come(x, 2, 1, 0), 0);
      at(x, 4, 0);
      x.changed(1, 0, 3, 0);
      due("wider now", come(x, 2, 1, 0), 0);
      at(x, 4, 0);
      x.changed(1, 0, 2, 0);
      due("as wide as it was", come(x, 2, 1, 0), 0);
      at(x, 2, 0);
      PewRank latest = with(flat(4, 4), 2);
      latest.go();
      latest.right(0, 0, 1, 2, 2, 0, 199, false);
      latest.go();
      latest.ends(0);
      due("of the latest YEAR, not an earlier one", come(latest, 1, 0), 0);
      at(latest, 102);
      latest.changed(0, 0, 12, 0);
      latest.go();
      latest.changed(0, 0, 2, 0);
      due("it did not sit in the latest", come(latest, 1, 0), 0);
      at(latest, 0);
      // its own is its own, though it belongs to another now, and in a gallery
      PewRank gallery = new PewRank();
      gallery.bench(0, 0, 4, true);
      gallery.household(99, 2, 0);
      gallery.household(0, 2, 0);
      gallery.right(0, 0, 0, 1, 2, 0, 0, false);
      gallery.go();
      gallery.right(0, 1, 0, 0, 4, 0, 199, false);
      due("in a gallery, whatever its RANK", come(gallery, 1, 0), 0);
      at(gallery, 1);
    });
  }

  private void aheadOfTheBell() {
    test("else, and a stranger, on the best RUN of UNITS that belong to nobody and are on no such RUN of anybody (that is not GONE)", () -> {
      PewRank x = with(flat(8), 2, 2);
      x.right(0, 1, 0, 6, 2, 0, 199, false);
      x.go();
      // 0 sat on 0 and 1, 1 on 6 and 7
      due("what is left is four", come(x, 60, -4), 0);
      at(x, 2);
      due("not five", come(x, 60, -5), 1);
      x.gone(0, -1);
      due("six, when one is GONE", come(x, 60, -6), 0);
      at(x, 0);
      x.gone(1, -1);
      due("all, when its RIGHT has ended, too", come(x, 60, -8), 0);
      PewRank owned = with(flat(8), 12);
      owned.right(0, 0, 0, 0, 7, 0, 199, false);
      due("one that is nobody's", come(owned, 60, -1, -1), 1);
      at(owned, 7, -1);
      PewRank land = with(flat(8), 12);
      land.right(1, 0, 0, 0, 8, 0, 199, false);
      due("land of a PLOT that is nobody's is nobody's", come(land, 60, -8), 0);
      PewRank now = with(flat(8), 12);
      now.right(0, 0, 0, 0, 1, 1, 1, false);
      due("somebody's from the next YEAR on", come(now, 60, -8), 0);
      now.go();
      due("somebody's in this YEAR", come(now, 60, -8), 1);
      now.go();
      due("somebody's in the last YEAR", come(now, 60, -8), 0);
    });
  }

  private void fromTheBellOn() {
    test("From the bell on: on the best RUN of any UNITS.", () -> {
      PewRank x = with(sloped(8), 2, 2);
      x.right(0, 1, 0, 0, 2, 0, 199, false);
      x.go();
      // 1 sat on 0 and 1, 0 on 2 and 3
      due("on what is another's", come(x, 0, 0, 1), 0);
      at(x, 0, 2);
      due("on another's RUN", come(x, 0, -2, -2), 0);
      at(x, 0, 2);
      due("the bell behind the first: its own, then the best of any", come(x, 1, 0, 1), 0);
      at(x, 2, 0);
      due("the bell behind the first: a stranger, then the best of any", come(x, 1, -2, -4), 0);
      at(x, 4, 0);
    });
    test("Nobody sits on them yet, and no galleries are for RANK LOW or more", () -> {
      PewRank x = new PewRank();
      x.bench(0, 0, 4, true);
      x.household(9, 2, 0);
      x.household(10, 2, 0);
      x.household(8, 2, 0);
      due("LOW 10: RANK 10 stands", come(x, 0, 1, 0, 2), 1);
      at(x, -1, 0, 2);
      due("ahead of the bell, too", come(x, 60, 1, 0, 2), 1);
      at(x, -1, 0, 2);
      due("two by two, then none", come(x, 0, -2, -1, -2, -1, -1), 2);
      at(x, 0, 2, -1, 3, -1);
    });
  }

  private void bestRuns() {
    test("the best: of the greatest WORTH, the least BENCH, then UNIT", () -> {
      PewRank x = new PewRank();
      x.pulpit(7, 1, 1000);
      x.bench(0, 0, 8, false);
      x.bench(0, 1, 8, false);
      due("the last UNIT of the last BENCH is nearest", come(x, 0, -1, -1, -1), 0);
      at(x, 107, 7, 106);
      PewRank alike = flat(4, 4);
      due("alike", come(alike, 0, -3, -1, -4), 0);
      at(alike, 0, 3, 100);
    });
    test("Who finds none stands.", () -> {
      due("no BENCHES", come(new PewRank(), 0, -1), 1);
      due("who stands is in nobody's way", come(flat(4), 0, -5, -4), 1);
      due("all stand", come(flat(4), 0, -5, -12), 2);
    });
  }

  private void sunday() {
    in("Promise 24");
    test("those of the row of a PLACE come one by one, the bell rings behind the first so many: how many of the row stand", () -> {
      PewRank x = with(flat(8), 12);
      x.right(0, 0, 0, 0, 4, 0, 199, false);
      // ahead of the bell four are nobody's, from the bell on all eight
      due("bell 0: all come from it on", come(x, 0, -2, -2, -2), 0);
      due("bell 1", come(x, 1, -2, -2, -2), 0);
      at(x, 4, 0, 2);
      due("bell 2", come(x, 2, -2, -2, -2), 0);
      at(x, 4, 6, 0);
      due("bell 3: as many as come", come(x, 3, -2, -2, -2), 1);
      at(x, 4, 6, -1);
      due("bell 60: more than come", come(x, 60, -2, -2, -2), 1);
      due("nobody comes", come(x, 0), 0);
      due("nobody comes ahead of the bell", come(x, 60), 0);
      x.row(0, 0, 60);
      for (int i = 0; i < 60; i++) x.write(0, i, -1);
      due("sixty ahead of the bell", x.sunday(0, 60), 56);
      due("the last from the bell on", x.sunday(0, 59), 55);
      due("the last sits", x.sat(59), 0);
    });
    test("-2: there is no such PLACE, bell is not 0 .. 60", () -> {
      range(0, 3, 0, -2, v -> {
        PewRank x = flat(4);
        for (int place = 0; place < 4; place++) x.row(place, 0, 0);
        return x.sunday(v, 0);
      });
      range(0, 60, 0, -2, v -> {
        PewRank x = flat(4);
        x.row(0, 0, 0);
        return x.sunday(0, v);
      });
      refused("the bell is 61, and the PLACE has nothing", Cases::furnished, -2, x -> x.sunday(3, 61));
    });
    test("-5: the PLACE has nothing", () -> {
      refused("never had", Cases::furnished, -5, x -> x.sunday(3, 0));
      PewRank x = furnished();
      x.tear(1);
      due("torn", x.sunday(1, 0), -5);
    });
  }

  private void sundayRefused() {
    test("-4: a number is no HOUSEHOLD that is not GONE", () -> {
      PewRank x = with(flat(8), 1, 1, 1);
      due("the last HOUSEHOLD", come(x, 0, 2), 0);
      due("one behind it", come(x, 0, 3), -4);
      due("far behind it", come(x, 0, 12), -4);
      due("one that would be a HOUSEHOLD if it were cut", come(x, 0, 1L << 32), -4);
      due("the greatest", come(x, 0, Long.MAX_VALUE), -4);
      due("the last of the row", come(x, 0, -1, 0, 3), -4);
      x.gone(1, -1);
      due("one that is GONE", come(x, 0, 0, 1, 2), -4);
      due("those that are not", come(x, 0, 0, 2), 0);
      due("there are none", come(flat(4), 0, 0), -4);
    });
    test("or below 0 and not -1 .. -12", () -> {
      PewRank x = flat(12);
      due("-12", come(x, 0, -12), 0);
      due("-13", come(x, 0, -13), -4);
      due("-1", come(x, 0, -1), 0);
      due("one that would be a stranger if it were cut", come(x, 0, -1L - (1L << 32)), -4);
      due("the least", come(x, 0, Long.MIN_VALUE), -4);
    });
    test("or a HOUSEHOLD comes twice", () -> {
      PewRank x = with(flat(12), 1, 1, 1, 1, 1, 1, 1, 1, 1, 1, 1, 1);
      due("all twelve once", come(x, 0, 11, 10, 9, 8, 7, 6, 5, 4, 3, 2, 1, 0), 0);
      due("a thirteenth", come(x, 0, 12), -4);
      due("one twice", come(x, 0, 11, 10, 11), -4);
      due("nobody sat by that", x.sat(0), 0);
      due("strangers may", come(x, 0, -1, -1), 0);
      refused("one twice", Cases::furnished, -4, y -> {
        fill(y, 2, 0, 2, -1, 2);
        long answer = y.sunday(2, 0);
        y.tear(2);
        return answer;
      });
    });
  }

  private void sat() {
    in("Promise 25");
    test("Where the i-th of the latest sunday() that told a number sat: 100 times the BENCH and the first UNIT", () -> {
      PewRank x = new PewRank();
      for (int b = 0; b < 8; b++) x.bench(0, 0, b == 7 ? 32 : 4, false);
      x.pulpit(31, 0, 100000);
      due("the last UNIT of the last BENCH", come(x, 0, -1), 0);
      at(x, 731);
      due("one that told -2", x.sunday(3, 61), -2);
      due("one that told -5", x.sunday(0, 0), -5);
      due("one that told -4", come(x, 0, -13), -4);
      at(x, 731);
      due("the latest", come(x, 0, -12, -12, -1), 0);
      at(x, 720, 708, 707);
      x.tear(3);
      x.go();
      due("it stays", x.sat(0), 720);
    });
    test("NONE: it stood, or no such i.", () -> {
      PewRank x = flat(4);
      due("there was none", x.sat(0), -1);
      due("one stands, one sits", come(x, 0, -5, -1), 1);
      due("it stood", x.sat(0), -1);
      due("it sat", x.sat(1), 0);
      int[] none = {-1, 2, 59, 60, MIN, MAX};
      for (int i : none) due("no such i as " + i, x.sat(i), -1);
      due("a shorter one", come(x, 0), 0);
      due("has no i", x.sat(1), -1);
    });
  }
}

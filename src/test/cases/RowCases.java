/** row, tear, write, paste. */
final class RowCases extends Cases {
  RowCases(Document document) {
    super(document);
  }

  @Override
  void all() {
    row();
    rowRefused();
    tear();
    write();
    writeCut();
    writeRefused();
    paste();
    pasteRefused();
  }

  /** The first numbers of a row of WIDTH 1. */
  private void holds(PewRank x, int place, long... numbers) {
    for (int i = 0; i < numbers.length; i++) due("number " + i, numberAt(x, place, i), numbers[i]);
  }

  private static PewRank reader() {
    return with(flat(4), 12);
  }

  /** Read by an offer of household 0 for a lot that is put up and knocked down; -4, if it is not 0 .. 10000. */
  private static long numberAt(PewRank x, int place, int i) {
    x.row(3, 1, 1);
    x.paste(place, i, 3, 0, 1);
    x.lot(0, 0, 1, 1);
    int taken = x.offers(0, 3);
    x.knock();
    return taken < 0 ? taken : x.knocked(0, 2);
  }

  private void row() {
    in("Promise 34");
    test("A PLACE has a row of n numbers of a WIDTH, all 0 (in place of another one): 0.", () -> {
      PewRank x = reader();
      due("of 60", x.row(0, 1, 60), 0);
      due("its last number", x.write(0, 59, 7), 0);
      due("none behind it", x.write(0, 60, 7), -6);
      holds(x, 0, 0, 0);
      due("it was 7", numberAt(x, 0, 59), 7);
      due("another one", x.row(0, 1, 60), 0);
      due("all 0", numberAt(x, 0, 59), 0);
      due("a shorter one", x.row(0, 1, 2), 0);
      due("its last", x.write(0, 1, 7), 0);
      due("none behind it", x.write(0, 2, 7), -6);
      due("a longer one again", x.row(0, 1, 3), 0);
      holds(x, 0, 0, 0, 0);
      due("of none", x.row(0, 1, 0), 0);
      due("it is a row", x.count(7), 2);
      due("without numbers", x.write(0, 0, 7), -6);
      due("of another WIDTH", x.row(0, 0, 1), 0);
      due("which it has", x.paste(0, 0, 3, 0, 1), -7);
      due("the other PLACES have nothing", x.write(1, 0, 0) * 10 + x.write(2, 0, 0), -55);
    });
    test("-2: there is no such PLACE or WIDTH (0 .. 3)", () -> {
      range(0, 3, 0, -2, v -> new PewRank().row(v, 0, 1));
      range(0, 3, 0, -2, v -> new PewRank().row(0, v, 1));
      refused("a WIDTH of 4", Cases::furnished, -2, x -> x.row(0, 4, 1));
    });
  }

  private void rowRefused() {
    test("or n is above 60", () -> {
      due("60", new PewRank().row(0, 3, 60), 0);
      due("61", new PewRank().row(0, 3, 61), -2);
      due("far above", new PewRank().row(0, 0, MAX), -2);
      refused("61, and the PLACE stays", Cases::furnished, -2, x -> x.row(1, 0, 61));
    });
    test("-3, and the PLACE stays: n is below 0.", () -> {
      due("0", new PewRank().row(0, 0, 0), 0);
      due("-1", new PewRank().row(0, 0, -1), -3);
      due("far below", new PewRank().row(0, 0, MIN), -3);
      due("-1 for no such PLACE", new PewRank().row(4, 0, -1), -2);
      due("-1 of no such WIDTH", new PewRank().row(0, 4, -1), -2);
      PewRank none = new PewRank();
      none.row(0, 0, -1);
      due("it has nothing still", none.write(0, 0, 0), -5);
      PewRank x = reader();
      fill(x, 0, 1, 5, 6);
      due("-1", x.row(0, 0, -1), -3);
      holds(x, 0, 5, 6);
      due("no more", x.write(0, 2, 0), -6);
    });
  }

  private void tear() {
    in("Promise 35");
    test("The PLACE has nothing: true", () -> {
      for (int place = 0; place < 4; place++) {
        PewRank x = new PewRank();
        x.row(place, 0, place * 20);
        due("tear " + place, x.tear(place), true);
        due("nothing", x.write(place, 0, 0), -5);
        due("none", x.count(7), 0);
        x.row(place, 0, 1);
        due("a row again", x.write(place, 0, 0), 0);
      }
      PewRank two = new PewRank();
      two.row(0, 0, 1);
      two.row(1, 0, 1);
      two.tear(0);
      due("the other stays", two.write(1, 0, 0), 0);
    });
    test("false, if it had nothing, or there is none such", () -> {
      PewRank x = new PewRank();
      x.row(3, 0, 5);
      x.tear(3);
      int[] none = {0, 3, -1, 4, MIN, MAX};
      for (int place : none) due("tear " + place, x.tear(place), false);
      refused("no such PLACE", Cases::furnished, 0, y -> y.tear(4) ? 1 : 0);
    });
  }

  private void write() {
    in("Promise 36");
    test("Number i of the PLACE's row is v", () -> {
      PewRank x = reader();
      x.row(0, 1, 3);
      due("the first", x.write(0, 0, 1), 0);
      due("the last", x.write(0, 2, 10000), 0);
      holds(x, 0, 1, 0, 10000);
      due("again", x.write(0, 2, 4), 0);
      holds(x, 0, 1, 0, 4);
    });
  }

  /** What a number of a row is cut to is seen by whether it can come on a Sunday, and how much it offers. */
  private void cut(int width, long v, boolean fits) {
    PewRank x = reader();
    x.row(0, width, 1);
    due("write " + v, x.write(0, 0, v), 0);
    due(v + " of WIDTH " + width + " can come", x.sunday(0, 0) >= 0, fits);
  }

  private void writeCut() {
    test("cut to its WIDTH: 0.", () -> {
      int[] bits = {8, 16, 32};
      for (int width = 0; width < 3; width++) {
        long all = 1L << bits[width];
        cut(width, all, true);
        cut(width, all - 1, true);
        cut(width, all - 12, true);
        cut(width, all - 13, false);
        cut(width, all / 2, false);
        cut(width, all / 2 - 1, false);
        cut(width, -all / 2, false);
        cut(width, -all, true);
        cut(width, -all - 1, true);
        cut(width, Long.MIN_VALUE, true);
        cut(width, Long.MAX_VALUE, true);
      }
      cut(3, 0, true);
      cut(3, -12, true);
      cut(3, 1L << 32, false);
      cut(3, Long.MIN_VALUE, false);
      cut(3, Long.MAX_VALUE, false);
      PewRank x = reader();
      x.row(0, 1, 3);
      x.write(0, 0, 65536 + 9);
      x.write(0, 1, -65536 + 10000);
      x.write(0, 2, (7L << 40) + 3);
      holds(x, 0, 9, 10000, 3);
      PewRank least = reader();
      least.lot(0, 0, 1, 1);
      fill(least, 0, 0, 127);
      due("127 of 8 bits", least.offers(0, 0), 1);
      fill(least, 0, 0, 128);
      due("128 of 8 bits is below 0", least.offers(0, 0), -4);
      fill(least, 0, 0, 256 + 127);
      due("383 of 8 bits is 127", least.offers(0, 0), 1);
    });
  }

  private void writeRefused() {
    test("-2: there is no such PLACE", () -> range(0, 3, -5, -2, v -> new PewRank().write(v, 0, 0)));
    test("-5: it has nothing", () -> {
      due("number 0", new PewRank().write(0, 0, 0), -5);
      due("number -1", new PewRank().write(0, -1, 0), -5);
      refused("nothing", Cases::furnished, -5, x -> x.write(2, 0, 1));
    });
    test("-6: there is no such number.", () -> {
      range(0, 59, 0, -6, v -> {
        PewRank x = new PewRank();
        x.row(1, 3, 60);
        return x.write(1, v, 1);
      });
      range(0, 0, 0, -6, v -> {
        PewRank x = new PewRank();
        x.row(1, 3, 1);
        return x.write(1, v, 1);
      });
      PewRank empty = new PewRank();
      empty.row(0, 0, 0);
      due("of none", empty.write(0, 0, 0), -6);
      refused("behind the last", Cases::furnished, -6, x -> x.write(1, 4, 3));
    });
  }

  private void paste() {
    in("Promise 37");
    test("So many numbers of a PLACE's row, from one on, are put to another one's (or its own), from one on, as they were: 0.", () -> {
      PewRank x = reader();
      fill(x, 0, 1, 1, 2, 3, 4, 5);
      x.row(1, 1, 5);
      due("all", x.paste(0, 0, 1, 0, 5), 0);
      holds(x, 1, 1, 2, 3, 4, 5);
      due("the first to the last", x.paste(0, 0, 1, 4, 1), 0);
      due("the last to the first", x.paste(0, 4, 1, 0, 1), 0);
      holds(x, 1, 5, 2, 3, 4, 1);
      holds(x, 0, 1, 2, 3, 4, 5);
      due("its own, on behind", x.paste(0, 0, 0, 1, 4), 0);
      holds(x, 0, 1, 1, 2, 3, 4);
      due("its own, on ahead", x.paste(0, 1, 0, 0, 4), 0);
      holds(x, 0, 1, 2, 3, 4, 4);
      due("its own where they are", x.paste(0, 0, 0, 0, 5), 0);
      holds(x, 0, 1, 2, 3, 4, 4);
      due("none, at the ends", x.paste(0, 5, 1, 5, 0), 0);
      due("none, at the beginnings", x.paste(0, 0, 1, 0, 0), 0);
      holds(x, 1, 5, 2, 3, 4, 1);
      x.row(2, 1, 0);
      due("none of none", x.paste(2, 0, 2, 0, 0), 0);
    });
  }

  private static PewRank filled() {
    PewRank x = furnished();
    fill(x, 2, 1, 0, 1, -2);
    return x;
  }

  private void pasteRefused() {
    test("-2: there is no such PLACE", () -> {
      range(0, 3, -5, -2, v -> new PewRank().paste(v, 0, 0, 0, 0));
      range(0, 3, -5, -2, v -> new PewRank().paste(0, 0, v, 0, 0));
      refused("no such PLACE, and n is below 0", Cases::furnished, -2, x -> x.paste(0, 0, 4, 0, -1));
    });
    test("-5: one has nothing", () -> {
      refused("the one that is put to", Cases::furnished, -5, x -> x.paste(0, 0, 3, 0, 1));
      refused("the one that is taken from", Cases::furnished, -5, x -> x.paste(3, 0, 0, 0, 1));
      due("both, and n is below 0", new PewRank().paste(0, 0, 1, 0, -1), -5);
      due("its own", new PewRank().paste(2, 0, 2, 0, 0), -5);
    });
    test("-7: they are not of one WIDTH", () -> {
      for (int from = 0; from < 4; from++) {
        for (int to = 0; to < 4; to++) {
          PewRank x = new PewRank();
          x.row(0, from, 1);
          x.row(1, to, 1);
          due("from WIDTH " + from + " to " + to, x.paste(0, 0, 1, 0, 1), from == to ? 0 : -7);
        }
      }
      refused("that, and n is below 0", Cases::furnished, -7, x -> x.paste(0, 0, 1, 0, -1));
      refused("that, of no numbers", Cases::furnished, -7, x -> x.paste(0, 0, 1, 0, 0));
    });
    test("-6, and nothing happens: some are beyond their rows, or a place or n is below 0.", () -> {
      // place 0 has four numbers, place 2 three
      int[][] beyond = {{0, 0, 4}, {1, 0, 4}, {4, 0, 1}, {0, 3, 1}, {3, 2, 2}, {5, 0, 0}, {0, 4, 0}, {0, 1, 3}};
      for (int[] b : beyond) refused("beyond " + b[0] + ", " + b[1] + ", " + b[2], RowCases::filled, -6, x -> x.paste(0, b[0], 2, b[1], b[2]));
      int[][] below = {{-1, 0, 1}, {0, -1, 1}, {0, 0, -1}, {-1, 0, 0}, {0, -1, 0}, {MIN, 0, 1}, {0, MIN, 1}, {0, 0, MIN}};
      for (int[] b : below) refused("below " + b[0] + ", " + b[1] + ", " + b[2], RowCases::filled, -6, x -> x.paste(0, b[0], 2, b[1], b[2]));
      int[][] over = {{MAX, 0, 1}, {0, MAX, 1}, {0, 0, MAX}, {1, 1, MAX}, {MAX, MAX, MAX}, {MAX, 0, 0}};
      for (int[] b : over) refused("over " + b[0] + ", " + b[1] + ", " + b[2], RowCases::filled, -6, x -> x.paste(0, b[0], 2, b[1], b[2]));
      due("the most that fit", filled().paste(0, 1, 2, 0, 3), 0);
      PewRank own = reader();
      fill(own, 0, 1, 1, 2, 3);
      due("in its own row", own.paste(0, 0, 0, 1, 3), -6);
      holds(own, 0, 1, 2, 3);
    });
  }
}

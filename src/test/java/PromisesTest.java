/** Promise by promise: ordinary inputs, the edges that the document names, and wrong inputs. */
public final class PromisesTest {
  private static int wrong = 0;
  private static int promise = 0;
  private static final int MAX = Integer.MAX_VALUE;
  private static final int MIN = Integer.MIN_VALUE;

  private static void due(String what, long got, long want) {
    if (got != want) {
      wrong++;
      System.out.println("promise " + promise + ": " + what + " answered " + got + ", due is " + want);
    }
  }

  private static void due(String what, boolean got, boolean want) {
    due(what, got ? 1 : 0, want ? 1 : 0);
  }

  public static void main(String[] args) {
    Runnable[] all = {
      PromisesTest::newObject, PromisesTest::pulpit, PromisesTest::terms, PromisesTest::pillar, PromisesTest::bench,
      PromisesTest::household, PromisesTest::changed, PromisesTest::gone, PromisesTest::sell, PromisesTest::plotOf,
      PromisesTest::right, PromisesTest::ends, PromisesTest::rightOf, PromisesTest::unit, PromisesTest::worth,
      PromisesTest::belongs, PromisesTest::judge, PromisesTest::lot, PromisesTest::offers, PromisesTest::knock,
      PromisesTest::knocked, PromisesTest::change, PromisesTest::changedTo, PromisesTest::sunday, PromisesTest::sat,
      PromisesTest::go, PromisesTest::seat, PromisesTest::moved, PromisesTest::beside, PromisesTest::householdOf,
      PromisesTest::benchOf, PromisesTest::count, PromisesTest::fund, PromisesTest::row, PromisesTest::tear,
      PromisesTest::write, PromisesTest::paste
    };
    for (Runnable one : all) {
      promise++;
      one.run();
    }
    System.out.println(wrong == 0 ? all.length + " promises hold" : wrong + " answers are not as due");
    if (wrong != 0) System.exit(1);
  }

  /** Benches of some units in a row, all far from each other, the pulpit as it is at first. */
  private static PewRank church(int... units) {
    PewRank x = new PewRank();
    for (int b = 0; b < units.length; b++) x.bench(0, b, units[b], false);
    return x;
  }

  private static void years(PewRank x, int n) {
    for (int i = 0; i < n; i++) x.go();
  }

  private static void fill(PewRank x, int place, int width, long... numbers) {
    x.row(place, width, numbers.length);
    for (int i = 0; i < numbers.length; i++) x.write(place, i, numbers[i]);
  }

  private static void newObject() {
    PewRank x = new PewRank();
    for (int what = 0; what <= 8; what++) due("count " + what, x.count(what), 0);
    due("fund", x.fund(), 0);
    for (int plot = 0; plot < 8; plot++) due("plot " + plot, x.plotOf(plot, 0), PewRank.NONE);
    for (int place = 0; place < 4; place++) due("write " + place, x.write(place, 0, 1), -5);
    due("bench", x.bench(30, 60, 4, false), 0);
    due("pulpit 30, 60 and LOUD 4000", x.unit(0, 0, 0), 400);
    due("gallery bench", x.bench(30, 59, 4, true), 1);
    x.right(0, 0, 0, 0, 4, 0, 199, false);
    x.household(10, 1, 0);
    x.household(9, 1, 0);
    x.right(1, 0, 0, 0, 4, 0, 199, false);
    x.sell(0, x.household(0, 12, 0));
    due("LOW 10: but one may sit in a gallery", x.beside(1), 1);
    years(x, 2);
    due("no custom yet", x.count(4), 1);
    x.go();
    due("USE 3", x.count(4), 2);
  }

  private static void pulpit() {
    PewRank x = church(4);
    due("corner", x.pulpit(60, 60, 100000), 0);
    due("other corner", x.pulpit(0, 0, 1), 0);
    due("LOUD 1", x.unit(0, 0, 0), 0);
    due("LOUD 100000", x.pulpit(0, 0, 100000), 0);
    due("at the pulpit", x.unit(0, 0, 0), 10000);
    due("beside it", x.unit(0, 1, 0), 9090);
    int[][] bad = {{-1, 0, 1}, {61, 0, 1}, {0, -1, 1}, {0, 61, 1}, {0, 0, 0}, {0, 0, 100001}, {MIN, 0, 1}, {0, MAX, 1}, {0, 0, MIN}};
    for (int[] b : bad) due("pulpit", x.pulpit(b[0], b[1], b[2]), -2);
    due("stays as it was", x.unit(0, 0, 0), 10000);
  }

  private static void terms() {
    PewRank x = church(4);
    due("least", x.terms(2, 0), 0);
    due("most", x.terms(30, 100), 0);
    int[][] bad = {{1, 0}, {31, 0}, {2, -1}, {2, 101}, {MIN, 0}, {MAX, 0}, {2, MIN}, {2, MAX}};
    for (int[] b : bad) due("terms", x.terms(b[0], b[1]), -2);
    x.household(0, 2, 0);
    years(x, 29);
    due("29 of 30", x.count(4), 0);
    x.go();
    due("30 of 30", x.count(4), 1);
    PewRank y = new PewRank();
    y.bench(0, 0, 4, true);
    y.household(0, 1, 0);
    due("a gallery for RANK 0", y.beside(1), 1);
    y.terms(3, 0);
    due("LOW 0: galleries are for nobody", y.beside(1), 0);
  }

  private static void pillar() {
    PewRank x = church(4);
    int[][] bad = {{-1, 0, 0}, {61, 0, 0}, {0, -1, 0}, {0, 61, 0}, {0, 0, -1}, {0, 0, 6}, {MAX, 0, 0}, {0, MIN, 0}, {0, 0, MAX}};
    for (int[] b : bad) due("pillar", x.pillar(b[0], b[1], b[2]), -2);
    for (int i = 0; i < 8; i++) due("pillar", x.pillar(60, i, 5), i);
    due("a ninth", x.pillar(0, 0, 0), -3);
    due("a wrong ninth", x.pillar(0, 61, 0), -2);
    due("how many", x.count(2), 8);
  }

  private static void bench() {
    PewRank x = new PewRank();
    int[][] bad = {{0, -1, 4}, {0, 61, 4}, {0, 0, 3}, {0, 0, 33}, {-1, 0, 4}, {61, 0, 4}, {58, 0, 4}, {30, 0, 32}, {MAX, 0, 4}, {MIN, 0, 4}, {0, 0, MAX}, {0, MIN, 4}};
    for (int[] b : bad) due("bench", x.bench(b[0], b[1], b[2], false), -2);
    due("to the right edge", x.bench(57, 60, 4, false), 0);
    due("the longest", x.bench(29, 0, 32, true), 1);
    for (int i = 2; i < 8; i++) due("bench", x.bench(0, i, 4, false), i);
    due("a ninth", x.bench(0, 0, 4, false), -3);
    due("a wrong ninth", x.bench(0, 0, 3, false), -2);
    x.go();
    due("a ninth, and a year has gone", x.bench(0, 0, 4, false), -3);
    PewRank y = church(4);
    y.go();
    due("a year has gone", y.bench(0, 0, 4, false), -9);
    due("that, and wrong", y.bench(0, 0, 3, false), -2);
  }

  private static void household() {
    PewRank x = new PewRank();
    int[][] bad = {{-1, 1, 0}, {100, 1, 0}, {0, 0, 0}, {0, 13, 0}, {0, 1, -1}, {0, 1, 10}, {MAX, 1, 0}, {0, MIN, 0}, {0, 1, MAX}};
    for (int[] b : bad) due("household", x.household(b[0], b[1], b[2]), -2);
    due("the least", x.household(0, 1, 0), 0);
    due("the greatest", x.household(99, 12, 9), 1);
    for (int i = 2; i < 12; i++) due("household", x.household(i, 1, 0), i);
    due("a thirteenth", x.household(0, 1, 0), -3);
    due("a wrong thirteenth", x.household(0, 0, 0), -2);
    x.gone(0, -1);
    due("the gone keep their numbers", x.household(0, 1, 0), -3);
  }

  private static void changed() {
    PewRank x = church(4);
    x.household(1, 1, 1);
    int[][] bad = {{-1, 1, 1, 0}, {1, 1, 1, 0}, {0, -1, 1, 0}, {0, 100, 1, 0}, {0, 0, 0, 0}, {0, 0, 13, 0}, {0, 0, 1, -1}, {0, 0, 1, 10}, {MAX, 0, 1, 0}, {MIN, 0, 1, 0}};
    for (int[] b : bad) due("changed", x.changed(b[0], b[1], b[2], b[3]), -2);
    due("as it was", x.householdOf(0, 0) * 100 + x.householdOf(0, 1) * 10 + x.householdOf(0, 2), 111);
    due("changed", x.changed(0, 99, 3, 9), 0);
    due("as it is", x.householdOf(0, 0) * 100 + x.householdOf(0, 1) * 10 + x.householdOf(0, 2), 9939);
    x.go();
    due("it sits so", x.seat(0, 0, 2), 3);
    x.gone(0, -1);
    due("gone", x.changed(0, 1, 1, 1), -2);
  }

  private static void gone() {
    PewRank x = church(8, 8);
    for (int i = 0; i < 4; i++) x.household(i, 1, 0);
    due("faculty to heirs", x.right(0, 0, 0, 0, 2, 0, 50, true), 0);
    due("not to heirs", x.right(0, 0, 0, 2, 2, 0, 50, false), 1);
    due("land", x.right(1, 3, 0, 4, 1, 0, 50, true), 2);
    due("later, to heirs", x.right(3, 0, 1, 0, 2, 9, 60, true), 3);
    due("over by then", x.right(2, 0, 1, 4, 2, 0, 1, true), 4);
    due("another's", x.right(2, 1, 1, 6, 2, 0, 90, true), 5);
    x.sell(3, 0);
    x.sell(4, 0);
    years(x, 2);
    int[][] bad = {{-1, 1}, {4, 1}, {0, 0}, {0, 4}, {0, -2}, {MAX, 1}, {0, MIN}, {-1, -1}};
    for (int[] b : bad) due("gone", x.gone(b[0], b[1]), -2);
    due("rights for the heir", x.gone(0, 1), 2);
    due("rights in all", x.count(4), 8);
    due("ended", x.rightOf(0, 6), 1);
    due("not to heirs, ended", x.rightOf(1, 6), 1);
    due("land goes on", x.rightOf(2, 6), 50);
    due("later one has nothing left", x.rightOf(3, 6), 1);
    due("over, as it was", x.rightOf(4, 6), 1);
    due("another's goes on", x.rightOf(5, 6), 90);
    int[] heirs = {0, 1, 0, 0, 2, 0, 50, 2, 1, 0};
    for (int what = 0; what < 10; what++) due("first passed " + what, x.rightOf(6, what), heirs[what]);
    int[] later = {3, 1, 1, 0, 2, 9, 60, 2, 1, 0};
    for (int what = 0; what < 10; what++) due("second passed " + what, x.rightOf(7, what), later[what]);
    due("for no year ahead of this one", x.belongs(0, 0, 1, 2, 1), 0);
    due("from this one on", x.belongs(0, 0, 2, 2, 1), 6);
    due("the later one not earlier", x.belongs(1, 0, 8, 2, 0), -1);
    due("the later one", x.belongs(1, 0, 9, 2, 0), 1);
    due("the later one as it was", x.belongs(1, 0, 9, 1, 0), 0);
    due("plots are the heir's", x.plotOf(3, 2) * 10 + x.plotOf(4, 199), 11);
    due("plots as they were", x.plotOf(3, 1), 0);
    due("no sales", x.count(6), 2);
    due("who is gone can't go", x.gone(0, 1), -2);
    due("nor be an heir", x.gone(1, 0), -2);
    // the forebear's year makes it better than one since year 1
    due("a later faculty", x.right(0, 2, 0, 0, 2, 1, 50, false), 8);
    due("the older year counts", x.belongs(0, 0, 5, 2, 0), 1);
    due("none for nobody", x.gone(1, -1), 0);
    due("its plots are nobody's", x.plotOf(3, 2), -1);
    due("now the later faculty", x.belongs(0, 0, 5, 2, 0), 2);
    PewRank y = church(4);
    for (int i = 0; i < 3; i++) y.household(0, 1, 0);
    for (int i = 0; i < 99; i++) y.right(0, i < 2 ? 0 : 2, 0, 0, 1, 0, 9, true);
    due("two, one number left", y.gone(0, 1), -3);
    due("it stays", y.householdOf(0, 3), 0);
    due("its rights, too", y.rightOf(0, 6), 9);
    due("no heir needs no numbers", y.gone(0, -1), 0);
    due("ended in year 0", y.rightOf(0, 6), -1);
    due("one that is nobody's needs none", y.gone(1, 2), 0);
    PewRank z = church(4);
    for (int i = 0; i < 2; i++) z.household(0, 1, 0);
    for (int i = 0; i < 98; i++) z.right(i < 96 ? 1 : 0, 0, 0, 0, 1, 0, 9, true);
    due("two, two numbers left", z.gone(0, 1), 2);
    due("all numbers", z.count(4), 100);
  }

  private static void sell() {
    PewRank x = church(4);
    x.household(0, 1, 0);
    x.household(0, 1, 0);
    int[][] bad = {{-1, 0}, {8, 0}, {0, 2}, {0, -2}, {MAX, 0}, {0, MIN}};
    for (int[] b : bad) due("sell", x.sell(b[0], b[1]), -2);
    due("nobody's before", x.sell(7, 0), -1);
    due("from one to another", x.sell(7, 1), 0);
    x.go();
    due("to nobody", x.sell(7, -1), 1);
    due("whose it was", x.plotOf(7, 0), 1);
    due("whose it is", x.plotOf(7, 1), -1);
    x.gone(0, -1);
    due("to one gone", x.sell(7, 0), -2);
    for (int i = 3; i < 100; i++) x.sell(0, 1);
    due("100 sales", x.count(6), 100);
    due("one more", x.sell(0, 1), -3);
    due("a wrong one more", x.sell(8, 1), -2);
  }

  private static void plotOf() {
    PewRank x = church(4);
    x.household(0, 1, 0);
    x.household(0, 1, 0);
    x.go();
    x.sell(0, 0);
    years(x, 2);
    x.sell(0, 1);
    int[] want = {-1, 0, 0, 1, 1};
    for (int y = 0; y < 5; y++) due("plotOf " + y, x.plotOf(0, y), want[y]);
    due("199", x.plotOf(0, 199), 1);
    due("another", x.plotOf(1, 199), -1);
    int[][] bad = {{-1, 0}, {8, 0}, {0, -1}, {0, 200}, {MIN, 0}, {0, MAX}};
    for (int[] b : bad) due("plotOf", x.plotOf(b[0], b[1]), -2);
  }

  private static void right() {
    PewRank x = church(8);
    x.household(0, 1, 0);
    int[][] bad = {
      {-1, 0, 0, 0, 1, 0, 0}, {4, 0, 0, 0, 1, 0, 0}, {0, -1, 0, 0, 1, 0, 0}, {0, 1, 0, 0, 1, 0, 0}, {1, 8, 0, 0, 1, 0, 0}, {1, -1, 0, 0, 1, 0, 0},
      {0, 0, -1, 0, 1, 0, 0}, {0, 0, 1, 0, 1, 0, 0}, {0, 0, 0, -1, 1, 0, 0}, {0, 0, 0, 8, 1, 0, 0}, {0, 0, 0, 0, 0, 0, 0}, {0, 0, 0, 0, 9, 0, 0},
      {0, 0, 0, 7, 2, 0, 0}, {0, 0, 0, 1, MAX, 0, 0}, {0, 0, 0, 0, -1, 0, 0}, {0, 0, 0, MAX, MAX, 0, 0}, {0, 0, 0, 0, 1, -1, 0}, {0, 0, 0, 0, 1, 0, 200},
      {0, 0, 0, 0, 1, 2, 1}, {0, 0, 0, 0, 1, 200, 200}
    };
    for (int[] b : bad) due("right", x.right(b[0], b[1], b[2], b[3], b[4], b[5], b[6], true), -2);
    due("the whole bench, one year", x.right(3, 0, 0, 0, 8, 199, 199, false), 0);
    due("of a plot", x.right(1, 7, 0, 7, 1, 0, 199, false), 1);
    x.gone(0, -1);
    due("of one gone, for the past as it were", x.right(0, 0, 0, 0, 1, 0, 5, false), 2);
    due("it belongs", x.belongs(0, 0, 3, 0, 0), 0);
    for (int i = 3; i < 100; i++) due("right", x.right(0, 0, 0, 0, 1, 0, 5, false), i);
    due("one more", x.right(0, 0, 0, 0, 1, 0, 5, false), -3);
    due("a wrong one more", x.right(4, 0, 0, 0, 1, 0, 5, false), -2);
  }

  private static void ends() {
    PewRank x = church(8);
    x.household(0, 12, 0);
    x.right(0, 0, 0, 0, 1, 0, 50, false);
    x.right(0, 0, 0, 1, 1, 0, 1, false);
    x.right(0, 0, 0, 2, 1, 3, 50, false);
    due("none such", x.ends(3), false);
    due("none such", x.ends(-1), false);
    due("none such", x.ends(MAX), false);
    years(x, 2);
    due("ends", x.ends(0), true);
    due("with the last year", x.rightOf(0, 6), 1);
    due("still in it", x.belongs(0, 0, 1, 2, 0), 0);
    due("no more now", x.belongs(0, 0, 2, 2, 0), -1);
    due("by what was known it goes on", x.belongs(0, 0, 2, 1, 0), 0);
    due("and on", x.belongs(0, 0, 50, 0, 0), 0);
    due("again", x.ends(0), false);
    due("it ended with the last year by itself", x.ends(1), false);
    due("one that begins later", x.ends(2), true);
    due("nothing stays", x.belongs(0, 2, 3, 2, 0), -1);
    due("as it was", x.belongs(0, 2, 3, 1, 0), 0);
    due("its until", x.rightOf(2, 6), 1);
    due("its since", x.rightOf(2, 5), 3);
    due("told and ended in one year", x.right(2, 0, 0, 3, 1, 0, 9, false), 3);
    due("ends", x.ends(3), true);
    due("known now: till the last year", x.belongs(0, 3, 1, 2, 0), 0);
    due("not known then", x.belongs(0, 3, 1, 1, 0), -1);
    PewRank y = church(4);
    y.household(0, 1, 0);
    y.right(0, 0, 0, 0, 1, 0, 0, false);
    due("in year 0", y.ends(0), true);
    due("ahead of all years", y.rightOf(0, 6), -1);
    due("nothing stays", y.belongs(0, 0, 0, 0, 0), -1);
  }

  private static void rightOf() {
    PewRank x = church(8, 8);
    x.household(0, 12, 0);
    x.household(0, 12, 0);
    x.go();
    x.right(2, 1, 1, 3, 4, 5, 6, true);
    int[] want = {2, 1, 1, 3, 4, 5, 6, 1, 1, 0};
    for (int what = 0; what < 10; what++) due("rightOf " + what, x.rightOf(0, what), want[what]);
    x.right(1, 7, 0, 0, 1, 0, 0, false);
    due("of land the plot", x.rightOf(1, 1), 7);
    due("not to heirs", x.rightOf(1, 8), 0);
    int[][] bad = {{-1, 0}, {2, 0}, {0, -1}, {0, 10}, {MAX, 0}, {0, MIN}};
    for (int[] b : bad) due("rightOf", x.rightOf(b[0], b[1]), -2);
  }

  private static void unit() {
    PewRank x = new PewRank();
    x.bench(10, 10, 5, false);
    x.bench(10, 10, 5, true);
    x.pulpit(10, 20, 11000);
    due("100 and 10", x.unit(0, 0, 0), 100);
    due("gallery", x.unit(1, 0, 0), 75);
    due("none in the way", x.unit(0, 0, 1), 0);
    due("sees", x.unit(0, 0, 2), 1);
    // the line from (14, 10) to (10, 20) goes through (12, 15)
    x.pillar(12, 15, 0);
    due("a point in the way", x.unit(0, 4, 1), 1);
    due("none beside it", x.unit(0, 3, 1), 0);
    due("none beside it", x.unit(0, 0, 1), 0);
    due("does not see", x.unit(0, 4, 2), 0);
    due("half", x.unit(0, 4, 0), 11000 / 126 / 2);
    due("half, then three quarters", x.unit(1, 4, 0), 11000 / 126 / 2 * 3 / 4);
    // its right edge lies on the line from (10, 10)
    x.pillar(8, 13, 2);
    due("an edge is in the way", x.unit(0, 0, 1), 1);
    due("not of the next", x.unit(0, 1, 1), 0);
    due("a pillar over the pulpit is in the way of all", x.pillar(10, 20, 0), 2);
    int[] ways = {2, 1, 1, 1, 2};
    for (int u = 0; u < 5; u++) due("ways " + u, x.unit(0, u, 1), ways[u]);
    due("a pillar over a unit", x.pillar(13, 9, 1), 3);
    int[] more = {2, 1, 2, 2, 3};
    for (int u = 0; u < 5; u++) due("ways " + u, x.unit(0, u, 1), more[u]);
    due("a quarter", x.unit(0, 0, 0), 25);
    due("behind the pulpit is not in the way", x.pillar(10, 30, 5), 4);
    due("behind the unit is not in the way", x.pillar(10, 2, 5), 5);
    due("ways 0", x.unit(0, 0, 1), 2);
    x.pulpit(11, 10, 1000);
    due("at the pulpit", x.unit(0, 1, 0), 100);
    due("a point alone", x.unit(0, 1, 1), 0);
    due("along the bench", x.unit(0, 0, 1), 0);
    due("along the bench, a pillar at its end", x.unit(0, 2, 1), 1);
    // halving twice cuts twice: 7 -> 3 -> 1
    PewRank y = church(4);
    y.pulpit(0, 0, 70);
    y.pillar(0, 0, 0);
    y.pillar(0, 0, 0);
    due("cut each time", y.unit(0, 0, 0), 1);
    int[][] bad = {{-1, 0, 0}, {2, 0, 0}, {0, -1, 0}, {0, 5, 0}, {0, 0, -1}, {0, 0, 3}, {MAX, 0, 0}, {0, MIN, 0}, {0, 0, MAX}};
    for (int[] b : bad) due("unit", x.unit(b[0], b[1], b[2]), -2);
  }

  private static void worth() {
    PewRank x = new PewRank();
    x.bench(0, 0, 4, false);
    x.pulpit(0, 0, 1000);
    x.pillar(3, 0, 0);
    // heard are 100, 90, 71 and 52 halved, 26; the last does not see
    x.household(0, 4, 3);
    due("four", x.worth(0, 0, 0), 100 + 90 + 71 + 26 + 300 + 3);
    x.household(0, 2, 1);
    due("two", x.worth(1, 0, 2), 71 + 26 + 71 + 1);
    due("beyond the bench", x.worth(1, 0, 3), -2);
    due("beyond the bench", x.worth(0, 0, 1), -2);
    int[][] bad = {{-1, 0, 0}, {2, 0, 0}, {0, -1, 0}, {0, 1, 0}, {0, 0, -1}, {0, 0, 4}, {MAX, 0, 0}, {0, MIN, 0}, {0, 0, MAX}};
    for (int[] b : bad) due("worth", x.worth(b[0], b[1], b[2]), -2);
    x.changed(1, 0, 1, 9);
    due("as wide as now", x.worth(1, 0, 3), 26 + 234);
    x.gone(1, -1);
    due("of one gone", x.worth(1, 0, 3), 260);
  }

  private static void belongs() {
    PewRank x = church(8, 4);
    for (int i = 0; i < 4; i++) x.household(0, 12, 0);
    x.right(3, 0, 0, 0, 4, 0, 20, false);
    x.right(2, 1, 0, 1, 3, 10, 20, false);
    x.right(2, 2, 0, 2, 2, 5, 20, false);
    x.right(2, 3, 0, 2, 2, 5, 20, false);
    x.right(1, 0, 0, 3, 1, 0, 20, false);
    due("the only one", x.belongs(0, 0, 10, 0, 0), 0);
    due("the lesser kind", x.belongs(0, 1, 10, 0, 0), 1);
    due("the lesser kind is not there yet", x.belongs(0, 1, 9, 0, 0), 0);
    due("the earlier year, then the lesser number", x.belongs(0, 2, 10, 0, 1), 2);
    due("a plot that is nobody's has no holder", x.belongs(0, 3, 10, 0, 1), 2);
    x.go();
    x.sell(0, 3);
    due("now it has, as is known now", x.belongs(0, 3, 10, 0, 0), 3);
    due("by the right of land", x.belongs(0, 3, 10, 0, 1), 4);
    due("not in the year ahead of that", x.belongs(0, 3, 0, 1, 0), 0);
    due("behind the last year", x.belongs(0, 0, 21, 1, 0), -1);
    due("in the last year", x.belongs(0, 0, 20, 1, 0), 0);
    due("no right", x.belongs(0, 4, 10, 1, 0), -1);
    due("no right", x.belongs(0, 4, 10, 1, 1), -1);
    due("another bench", x.belongs(1, 0, 10, 1, 0), -1);
    x.right(0, 3, 0, 0, 1, 0, 20, false);
    due("known later", x.belongs(0, 0, 0, 1, 0), 3);
    due("not known then", x.belongs(0, 0, 0, 0, 0), 0);
    int[][] bad = {{-1, 0, 0, 0, 0}, {2, 0, 0, 0, 0}, {0, -1, 0, 0, 0}, {0, 8, 0, 0, 0}, {1, 4, 0, 0, 0}, {0, 0, -1, 0, 0}, {0, 0, 200, 0, 0}, {0, 0, 0, -1, 0}, {0, 0, 0, 2, 0}, {0, 0, 0, 0, -1}, {0, 0, 0, 0, 2}};
    for (int[] b : bad) due("belongs", x.belongs(b[0], b[1], b[2], b[3], b[4]), -2);
  }

  private static void judge() {
    PewRank x = church(8);
    for (int i = 0; i < 4; i++) x.household(0, 12, 0);
    x.right(0, 0, 0, 0, 4, 0, 20, false);
    x.right(3, 1, 0, 0, 4, 0, 20, false);
    x.right(1, 5, 0, 0, 4, 0, 20, false);
    due("faculty", x.judge(1, 0, 0, 0, 3, 0), 0);
    due("the best right is a third's", x.judge(1, 2, 0, 0, 3, 0), 1);
    due("neither", x.judge(3, 2, 0, 0, 3, 0), -1);
    due("no right there", x.judge(0, 1, 0, 4, 3, 0), -1);
    due("not then", x.judge(0, 1, 0, 0, 21, 0), -1);
    x.go();
    x.sell(5, 2);
    due("land", x.judge(1, 2, 0, 0, 1, 0), 2);
    due("not its own yet", x.judge(1, 2, 0, 0, 0, 0), 1);
    x.gone(0, -1);
    due("one that is gone had a right", x.judge(0, 1, 0, 0, 0, 1), 0);
    due("and has none", x.judge(0, 1, 0, 0, 1, 1), 1);
    due("by what was known it had", x.judge(0, 1, 0, 0, 1, 0), 0);
    int[][] bad = {{0, 0, 0, 0, 0, 0}, {-1, 0, 0, 0, 0, 0}, {0, 4, 0, 0, 0, 0}, {4, 0, 0, 0, 0, 0}, {0, -1, 0, 0, 0, 0}, {0, 1, -1, 0, 0, 0}, {0, 1, 1, 0, 0, 0}, {0, 1, 0, -1, 0, 0}, {0, 1, 0, 8, 0, 0}, {0, 1, 0, 0, -1, 0}, {0, 1, 0, 0, 200, 0}, {0, 1, 0, 0, 0, -1}, {0, 1, 0, 0, 0, 2}, {MAX, MIN, 0, 0, 0, 0}};
    for (int[] b : bad) due("judge", x.judge(b[0], b[1], b[2], b[3], b[4], b[5]), -2);
  }

  private static void lot() {
    PewRank x = church(8);
    int[][] bad = {{-1, 0, 1, 1}, {1, 0, 1, 1}, {0, -1, 1, 1}, {0, 8, 1, 1}, {0, 0, 0, 1}, {0, 0, 9, 1}, {0, 7, 2, 1}, {0, 1, MAX, 1}, {0, 0, 1, 0}, {0, 0, 1, 31}, {0, 0, MIN, 1}};
    for (int[] b : bad) due("lot", x.lot(b[0], b[1], b[2], b[3]), -2);
    due("one year", x.lot(0, 0, 8, 1), 0);
    due("thirty years", x.lot(0, 7, 1, 30), 1);
    for (int i = 2; i < 8; i++) due("lot", x.lot(0, 0, 1, 1), i);
    due("a ninth", x.lot(0, 0, 1, 1), -3);
    due("a wrong ninth", x.lot(0, 0, 1, 0), -2);
    x.knock();
    due("the first again", x.lot(0, 0, 1, 1), 0);
  }

  private static void offers() {
    PewRank x = church(8);
    for (int i = 0; i < 3; i++) x.household(0, 1, 0);
    x.lot(0, 0, 1, 1);
    due("no such lot", x.offers(1, 0), -2);
    due("no such lot", x.offers(-1, 0), -2);
    due("no such place", x.offers(0, 4), -2);
    due("no such place", x.offers(0, -1), -2);
    due("nothing there", x.offers(0, 3), -5);
    fill(x, 0, 3, 0, 10000);
    due("one above 0", x.offers(0, 0), 1);
    fill(x, 0, 3, 5, 10001);
    due("too much", x.offers(0, 0), -4);
    fill(x, 0, 3, 5, -1);
    due("below 0", x.offers(0, 0), -4);
    fill(x, 0, 3, 1L << 32);
    due("far too much", x.offers(0, 0), -4);
    fill(x, 1, 2, 1, 1, 1, 1, 10001);
    due("too much for nobody", x.offers(0, 1), -4);
    due("the earlier ones stand", x.knock() + 100 * x.knocked(1, 2), 1000000);
    x.lot(0, 0, 1, 1);
    x.gone(0, -1);
    fill(x, 1, 2, 7, 1, 2, 9);
    due("not of one gone, nor of nobody", x.offers(0, 1), 2);
    fill(x, 1, 2, 7, 6);
    due("in place of the earlier ones", x.offers(0, 1), 1);
    x.household(0, 1, 0);
    due("the sum", x.knock(), 0);
    due("who got it", x.knocked(1, 0), 0);
    x.lot(0, 0, 1, 1);
    fill(x, 1, 2);
    due("an empty row", x.offers(0, 1), 0);
    goneOffersNothing();
  }

  /** Whether the household goes ahead of offers() or behind it, it offers nothing by the time of knock(). */
  private static void goneOffersNothing() {
    PewRank x = church(8);
    for (int i = 0; i < 4; i++) x.household(0, 1, 0);
    for (int i = 0; i < 3; i++) x.lot(0, 2 * i, 2, 5);
    fill(x, 0, 1, 90, 40, 30, 70);
    for (int i = 0; i < 2; i++) due("four offer", x.offers(i, 0), 4);
    due("one goes, with an heir", x.gone(0, 1), 0);
    due("three offer for the next", x.offers(2, 0), 3);
    due("another goes, without one", x.gone(3, -1), 0);
    due("a lot each, nobody loses by it", x.knock(), 0);
    due("who is gone got none", x.knocked(0, 0) * 10 + x.knocked(3, 0), -11);
    due("nor did it pay", x.knocked(0, 1) + x.knocked(3, 1), 0);
    due("the heir has its own offer alone", x.knocked(1, 0), 0);
    due("the other", x.knocked(2, 0), 1);
    due("all offered", x.knocked(1, 2), 70);
    due("no right for who is gone", x.count(4), 2);
    x.lot(0, 0, 1, 1);
    fill(x, 0, 1, 90, 40, 30);
    due("two offer", x.offers(0, 0), 2);
    due("who would have paid 30", x.gone(2, -1), 0);
    due("has nobody to lose by it now", x.knock(), 0);
    due("one offer", x.knocked(1, 2), 40);
  }

  private static void knock() {
    PewRank x = church(8);
    for (int i = 0; i < 4; i++) x.household(0, 1, 0);
    due("no lots", x.knock(), -1);
    x.lot(0, 0, 2, 5);
    due("nobody offers", x.knock(), 0);
    due("no right", x.count(4), 0);
    due("no lots", x.knock(), -1);
    // of several ways household 0 gets the least lot
    x.lot(0, 0, 2, 5);
    x.lot(0, 2, 2, 6);
    fill(x, 0, 1, 5, 5, 5);
    x.offers(0, 0);
    x.offers(1, 0);
    due("each pays the third's offer", x.knock(), 10);
    due("household 0", x.knocked(0, 0), 0);
    due("household 1", x.knocked(1, 0), 1);
    due("household 2", x.knocked(2, 0), -1);
    int[] want = {3, 1, 0, 2, 2, 0, 5, 0, 0, 5};
    for (int what = 0; what < 10; what++) due("rent " + what, x.rightOf(1, what), want[what]);
    // one lot each, though household 3 offers most for both
    x.lot(0, 0, 2, 5);
    x.lot(0, 2, 2, 6);
    fill(x, 0, 1, 0, 0, 3, 10);
    x.offers(0, 0);
    x.offers(1, 0);
    due("nobody pays", x.knock(), 0);
    due("the second", x.knocked(2, 0) * 10 + x.knocked(3, 0), 1);
    due("all offered", x.knocked(0, 2), 13);
    due("rights of a price of 0, too", x.count(4), 4);
    years(x, 190);
    x.lot(0, 0, 1, 30);
    x.offers(0, 0);
    x.knock();
    due("until 199 at most", x.rightOf(x.count(4) - 1, 6), 199);
    due("since this year", x.rightOf(x.count(4) - 1, 5), 190);
    due("known now", x.rightOf(x.count(4) - 1, 7), 190);
    PewRank y = church(8);
    for (int i = 0; i < 2; i++) y.household(0, 1, 0);
    for (int i = 0; i < 99; i++) y.right(1, 0, 0, 0, 1, 0, 0, false);
    y.lot(0, 0, 1, 1);
    y.lot(0, 0, 1, 1);
    fill(y, 0, 0, 9, 9);
    y.offers(0, 0);
    y.offers(1, 0);
    due("two, one number left", y.knock(), -3);
    due("ahead of any", y.knocked(0, 0), -2);
    due("the lots stay", y.count(5), 2);
    fill(y, 0, 0, 0, 9);
    y.offers(0, 0);
    y.offers(1, 0);
    due("one", y.knock(), 0);
    due("rights", y.count(4), 100);
    knockWithNumbersLeft();
  }

  /** A refused gone() leaves the offers; one that is done leaves numbers enough for those who still offer. */
  private static void knockWithNumbersLeft() {
    PewRank x = church(8);
    for (int i = 0; i < 3; i++) x.household(0, 1, 0);
    for (int i = 0; i < 99; i++) x.right(0, i < 2 ? 0 : 2, 0, 0, 1, 0, 9, true);
    x.lot(0, 0, 1, 1);
    x.lot(0, 1, 1, 1);
    fill(x, 0, 1, 5, 3);
    x.offers(0, 0);
    x.offers(1, 0);
    due("two rights for an heir, one number left", x.gone(0, 1), -3);
    due("two who offer, one number left", x.knock(), -3);
    due("without an heir", x.gone(0, -1), 0);
    due("one who offers", x.knock(), 0);
    due("its offer", x.knocked(1, 2) * 10 + x.knocked(0, 0), 29);
  }

  private static void knocked() {
    PewRank x = church(8);
    for (int i = 0; i < 3; i++) x.household(0, 1, 0);
    for (int what = 0; what < 3; what++) due("ahead of any", x.knocked(0, what), -2);
    x.knock();
    due("one that told no sum", x.knocked(0, 0), -2);
    x.lot(0, 0, 1, 1);
    fill(x, 0, 1, 10, 30, 20);
    x.offers(0, 0);
    due("the second offer", x.knock(), 20);
    due("lot", x.knocked(1, 0), 0);
    due("paid", x.knocked(1, 1), 20);
    due("offered", x.knocked(1, 2), 30);
    due("no lot", x.knocked(0, 0), -1);
    due("paid nothing", x.knocked(0, 1), 0);
    due("offered in all, of any", x.knocked(0, 2), 30);
    x.knock();
    due("the latest that told a sum", x.knocked(1, 1), 20);
    due("a new household got none", x.knocked(x.household(0, 1, 0), 0), -1);
    int[][] bad = {{-1, 0}, {4, 0}, {0, -1}, {0, 3}, {MAX, 0}, {0, MIN}, {4, 2}};
    for (int[] b : bad) due("knocked", x.knocked(b[0], b[1]), -2);
    x.lot(0, 0, 1, 1);
    due("nobody offers", x.knock(), 0);
    due("then none got one", x.knocked(1, 0), -1);
    due("and paid none", x.knocked(1, 1), 0);
    due("and none was offered", x.knocked(1, 2), 0);
  }

  /** Three of one unit each on seats that are worth 9, 8, 7 (and 1 for seeing), by faculty. */
  private static PewRank ring() {
    PewRank x = new PewRank();
    x.bench(0, 0, 12, false);
    x.pulpit(0, 0, 100000);
    for (int i = 0; i < 4; i++) x.household(i, 1, 0);
    for (int i = 0; i < 4; i++) x.right(0, i, 0, 3 * i, i == 3 ? 2 : 1, 0, 199, false);
    x.changed(3, 3, 2, 0);
    x.go();
    return x;
  }

  private static void change() {
    PewRank y = church(4);
    y.household(0, 1, 0);
    due("no year", y.change(1), -9);
    due("others", y.change(2), -2);
    due("others", y.change(MIN), -2);
    due("others", y.change(-1), -2);
    PewRank x = ring();
    due("all look at the best, whose own it is", x.change(7), 0);
    due("others", x.change(16), -2);
    due("none", x.change(0), 0);
    // 0 now needs two and looks at 3's run, 3 needs one and looks at 0's
    x.changed(0, 0, 2, 0);
    x.changed(3, 3, 1, 0);
    due("a ring of two", x.change(15), 2);
    due("0", x.changedTo(0), 3);
    due("3", x.changedTo(3), 0);
    due("1 looks again and stays", x.changedTo(1), 1);
    due("without 3 none is long enough: all stay", x.change(7), 0);
    due("0 keeps its own", x.changedTo(0), 0);
    x.gone(3, -1);
    due("nor with 3, who is gone", x.change(15), 0);
    due("3 is not among them", x.changedTo(3), -1);
    PewRank z = threeRing();
    due("a ring of three", z.change(7), 3);
    due("0", z.changedTo(0), 1);
    due("1", z.changedTo(1), 2);
    due("2", z.changedTo(2), 0);
    due("without 2 the others change with each other", z.change(3), 2);
    due("without 1 there is no ring", z.change(5), 0);
    // runs that are worth the same: itself, else the least number
    PewRank w = twins();
    due("of several itself", w.change(3), 0);
    w.changed(0, 0, 2, 0);
    w.changed(1, 0, 2, 0);
    due("of several the least number", w.change(15), 4);
    int[] to = {2, 3, 0, 1};
    for (int h = 0; h < 4; h++) due("looks at the least " + h, w.changedTo(h), to[h]);
    due("a thought alone", w.seat(0, 0, 1), 0);
  }

  /** 0 needs three and has two, 1 needs one and has three, 2 needs two and has the one that is heard best. */
  private static PewRank threeRing() {
    PewRank x = new PewRank();
    x.bench(0, 0, 12, false);
    x.pulpit(0, 0, 100000);
    x.household(0, 2, 0);
    x.household(0, 3, 0);
    x.household(0, 1, 0);
    x.right(0, 2, 0, 0, 1, 0, 199, false);
    x.right(0, 0, 0, 5, 2, 0, 199, false);
    x.right(0, 1, 0, 8, 3, 0, 199, false);
    x.go();
    x.changed(0, 0, 3, 0);
    x.changed(1, 0, 1, 0);
    x.changed(2, 0, 2, 0);
    return x;
  }

  /** Two with one unit, two with two units that pillars hide, each pair at the same distance from the pulpit. */
  private static PewRank twins() {
    PewRank x = new PewRank();
    x.bench(20, 0, 21, false);
    x.pulpit(30, 60, 100000);
    int[] hidden = {25, 26, 34, 35};
    for (int at : hidden) x.pillar(at, 0, 0);
    x.household(0, 1, 0);
    x.household(0, 1, 0);
    x.household(0, 2, 0);
    x.household(0, 2, 0);
    x.right(0, 0, 0, 0, 1, 0, 199, false);
    x.right(0, 1, 0, 20, 1, 0, 199, false);
    x.right(0, 2, 0, 5, 2, 0, 199, false);
    x.right(0, 3, 0, 14, 2, 0, 199, false);
    x.go();
    x.changed(2, 0, 1, 0);
    x.changed(3, 0, 1, 0);
    return x;
  }

  private static void changedTo() {
    PewRank x = ring();
    for (int h = -1; h < 5; h++) due("there was none", x.changedTo(h), -1);
    x.change(5);
    due("0", x.changedTo(0), 0);
    due("not among those", x.changedTo(1), -1);
    due("2", x.changedTo(2), 2);
    due("no such one", x.changedTo(4), -1);
    due("no such one", x.changedTo(-1), -1);
    due("no such one", x.changedTo(MAX), -1);
    due("no such one", x.changedTo(MIN), -1);
    x.change(1 << 20);
    due("that told no number", x.changedTo(2), 2);
    x.household(0, 1, 0);
    x.change(31);
    due("one that has not sat", x.changedTo(4), -1);
    x.change(0);
    due("none at all", x.changedTo(0), -1);
  }

  private static void sunday() {
    PewRank x = new PewRank();
    // the nearer to the left the better
    x.bench(0, 0, 8, false);
    x.bench(0, 40, 4, true);
    x.pulpit(0, 0, 100000);
    x.household(20, 2, 0);
    x.household(5, 2, 0);
    x.household(3, 1, 0);
    x.right(0, 0, 0, 0, 4, 0, 199, false);
    due("places and bells", x.sunday(-1, 0), -2);
    due("places and bells", x.sunday(4, 0), -2);
    due("places and bells", x.sunday(0, -1), -2);
    due("places and bells", x.sunday(0, 61), -2);
    due("places and bells", x.sunday(MAX, MIN), -2);
    due("nothing there", x.sunday(0, 60), -5);
    long[][] bad = {{3}, {-13}, {0, 1, 0}, {127}, {-128}};
    for (long[] b : bad) {
      fill(x, 0, 0, b);
      due("numbers", x.sunday(0, 0), -4);
    }
    fill(x, 1, 3, 1L << 32);
    due("a number that would be 0 if it were cut", x.sunday(1, 0), -4);
    // no year has gone: household 0 has no run yet, and its own units are not nobody's
    fill(x, 0, 0, 0);
    due("ahead of the bell", x.sunday(0, 1), 0);
    due("what is nobody's", x.sat(0), 4);
    due("from the bell on", x.sunday(0, 0), 0);
    due("any", x.sat(0), 0);
    // galleries are not for it
    fill(x, 0, 0, -8, 0);
    due("all of the bench taken", x.sunday(0, 0), 1);
    due("a stranger on all of it", x.sat(0), 0);
    due("no galleries for RANK 20", x.sat(1), -1);
    fill(x, 0, 0, -8, 1);
    due("but for RANK 5", x.sunday(0, 0), 0);
    due("a gallery", x.sat(1), 100);
    x.go();
    due("household 0 by right", x.seat(0, 0, 1), 0);
    due("household 1", x.seat(1, 0, 0) * 100 + x.seat(1, 0, 1), 4);
    due("household 2", x.seat(2, 0, 0) * 100 + x.seat(2, 0, 1), 6);
    // ahead of the bell the runs of the others are kept, though nobody's
    fill(x, 0, 0, -1, -1, 2, -2, 1, 0, -2, -4);
    due("ahead of the bell", x.sunday(0, 60), 2);
    int[] ahead = {7, 100, 6, 101, 4, 0, -1, -1};
    for (int i = 0; i < ahead.length; i++) due("ahead of the bell " + i, x.sat(i), ahead[i]);
    due("the bell behind three", x.sunday(0, 3), 1);
    int[] bell = {7, 100, 6, 0, 2, 4, 101, -1};
    for (int i = 0; i < bell.length; i++) due("the bell behind three " + i, x.sat(i), bell[i]);
    x.changed(1, 5, 3, 0);
    fill(x, 0, 0, 1);
    due("its run is not as wide as it", x.sunday(0, 1), 0);
    due("what is on nobody's run", x.sat(0), 100);
    x.gone(2, -1);
    due("gone", x.sunday(0, 0), 0);
    fill(x, 0, 0, 2);
    due("one gone", x.sunday(0, 0), -4);
    fill(x, 0, 0, -1, -1);
    due("the run of one gone is kept for nobody", x.sunday(0, 2), 0);
    due("best first", x.sat(0) * 1000 + x.sat(1), 6007);
    // who sat in a gallery by right comes back to it, whatever its rank
    PewRank y = new PewRank();
    y.bench(0, 0, 4, true);
    y.household(50, 2, 0);
    y.right(0, 0, 0, 1, 2, 0, 199, false);
    y.go();
    fill(y, 0, 0, 0);
    due("its own run", y.sunday(0, 1), 0);
    due("in a gallery", y.sat(0), 1);
    due("from the bell on none", y.sunday(0, 0), 1);
    y.terms(3, 0);
    fill(y, 0, 0, -1);
    due("LOW 0: no galleries for strangers", y.sunday(0, 0), 1);
    y.terms(3, 1);
    due("LOW 1", y.sunday(0, 0), 0);
  }

  private static void sat() {
    PewRank x = church(4, 8);
    due("none yet", x.sat(0), -1);
    fill(x, 0, 0, -4, -8, -1);
    due("one stands", x.sunday(0, 0), 1);
    due("bench 0", x.sat(0), 0);
    due("bench 1", x.sat(1), 100);
    due("stood", x.sat(2), -1);
    due("no such", x.sat(3), -1);
    due("no such", x.sat(-1), -1);
    due("no such", x.sat(MAX), -1);
    due("no such", x.sat(MIN), -1);
    x.sunday(0, 61);
    fill(x, 0, 0, -1, 0);
    due("a wrong one", x.sunday(0, 0), -4);
    due("the latest that told a number", x.sat(1), 100);
    fill(x, 0, 0);
    due("nobody comes", x.sunday(0, 0), 0);
    due("nobody sat", x.sat(0), -1);
    x.row(0, 0, 60);
    for (int i = 0; i < 60; i++) x.write(0, i, -1);
    due("sixty", x.sunday(0, 60), 48);
    due("the twelfth", x.sat(11), 107);
    due("the thirteenth", x.sat(12), -1);
  }

  private static void go() {
    PewRank x = church();
    due("no benches", x.go(), 0);
    // by right: the greatest worth, the least bench, then unit
    PewRank r = church(8, 8);
    r.household(1, 2, 0);
    r.right(0, 0, 1, 5, 3, 0, 199, false);
    r.right(0, 0, 0, 6, 2, 0, 199, false);
    r.right(0, 0, 0, 1, 3, 0, 199, false);
    due("one", r.go(), 1);
    due("alike: the least bench, then unit", r.seat(0, 0, 0) * 100 + r.seat(0, 0, 1), 1);
    due("by right", r.seat(0, 0, 3), 1);
    // units that belong to it, but not side by side enough: by rank, on what is nobody's
    PewRank n = church(4);
    n.household(1, 2, 0);
    n.right(0, 0, 0, 0, 1, 0, 199, false);
    n.go();
    due("by rank", n.seat(0, 0, 1) * 10 + n.seat(0, 0, 3), 10);
    // the greater rank sits ahead, for the most worth of all
    PewRank k = new PewRank();
    k.bench(0, 0, 4, false);
    k.pulpit(3, 0, 1000);
    k.household(9, 2, 0);
    k.household(0, 2, 0);
    k.household(99, 2, 0);
    // heard are 52, 71, 90, 100: household 2 takes the right end, though nobody may sit ahead of it then
    due("the greatest rank alone takes the best", k.go(), 1);
    due("on the right", k.seat(2, 0, 1), 2);
    due("household 0 has no run behind", k.seat(0, 0, 0), -1);
    k.changed(2, 1, 2, 0);
    due("household 0 first now: it takes the best, 2 none", k.go(), 1);
    due("household 0 on the right", k.seat(0, 1, 1), 2);
    k.changed(0, 1, 2, 0);
    due("of one rank: both sit, the least number ahead", k.go(), 2);
    due("household 0 on the left", k.seat(0, 2, 1) * 10 + k.seat(1, 2, 0), -1);
    due("household 2 on the right", k.seat(2, 2, 1), 2);
    ties();
    ofOneBench();
    galleries();
    custom();
    longGo();
  }

  private static void ties() {
    // nothing is heard or seen: all ways are worth 0, and yet all sit, the first on the least
    PewRank x = new PewRank();
    x.bench(0, 0, 4, false);
    x.bench(0, 1, 4, false);
    x.pulpit(60, 60, 1);
    x.pillar(60, 60, 0);
    for (int i = 0; i < 4; i++) x.household(i, 2, 0);
    due("worth nothing", x.beside(0), 0);
    due("all sit", x.go(), 4);
    int[] want = {102, 100, 2, 0};
    for (int h = 0; h < 4; h++) due("sits " + h, x.seat(h, 0, 0) * 100 + x.seat(h, 0, 1), want[h]);
    x.household(0, 3, 0);
    x.changed(2, 2, 3, 0);
    // 3 at 0, and 2, who is next, at 100, though more could sit without it
    due("the first ones sit", x.go(), 2);
    int[] next = {-1, -1, 100, 0, -1};
    for (int h = 0; h < 5; h++) {
      due("sits then " + h, x.seat(h, 1, 0) < 0 ? -1 : x.seat(h, 1, 0) * 100 + x.seat(h, 1, 1), next[h]);
    }
  }

  /** The longest benches: the end of one does not go on at the next one's first unit. */
  private static void ofOneBench() {
    PewRank x = church(32, 32);
    x.household(0, 4, 0);
    x.household(0, 12, 0);
    x.right(0, 1, 0, 0, 30, 0, 199, false);
    x.right(0, 1, 1, 2, 30, 0, 199, false);
    due("two and two are not four", x.go(), 1);
    x.changed(0, 0, 2, 0);
    due("two are", x.go(), 2);
    due("at the end", x.seat(0, 1, 1), 30);
    fill(x, 0, 0, -2, -2, -2);
    due("strangers on the rest", x.sunday(0, 60), 2);
    due("the next bench", x.sat(0), 100);
    PewRank y = church(32, 32);
    y.household(0, 4, 0);
    y.right(0, 0, 0, 30, 2, 0, 199, false);
    y.right(0, 0, 1, 0, 2, 0, 199, false);
    y.go();
    due("not by right", y.seat(0, 0, 3), 0);
  }

  private static void galleries() {
    PewRank x = new PewRank();
    x.bench(0, 0, 4, true);
    x.household(10, 2, 0);
    x.household(9, 2, 0);
    due("LOW 10", x.go(), 1);
    due("RANK 10 does not sit", x.seat(0, 0, 0), -1);
    due("RANK 9 sits", x.seat(1, 0, 0), 0);
    x.right(0, 0, 0, 1, 3, 0, 199, false);
    due("by right it does", x.go(), 1);
    due("RANK 10", x.seat(0, 1, 1), 1);
  }

  private static void custom() {
    PewRank x = church(8);
    x.household(5, 2, 0);
    x.household(4, 2, 0);
    x.household(3, 2, 0);
    x.right(0, 2, 0, 6, 2, 0, 199, false);
    years(x, 2);
    x.changed(1, 4, 3, 0);
    x.go();
    due("0 alone", x.count(4), 2);
    int[] want = {2, 0, 0, 0, 2, 3, 199, 3, 0, 0};
    for (int what = 0; what < 10; what++) due("custom " + what, x.rightOf(1, what), want[what]);
    years(x, 2);
    due("1 has sat on another run since", x.count(4), 3);
    due("1", x.rightOf(2, 4), 3);
    due("since", x.rightOf(2, 5), 5);
    years(x, 5);
    due("no second ones", x.count(4), 3);
    x.ends(1);
    years(x, 2);
    due("not yet again", x.count(4), 3);
    x.go();
    due("again", x.count(4), 4);
    // USE counts as it is when the year goes by
    PewRank u = church(8);
    u.household(5, 2, 0);
    u.terms(30, 10);
    years(u, 9);
    u.terms(10, 10);
    u.go();
    due("ten years", u.count(4), 1);
    // one number left: the least household has it
    PewRank f = church(8);
    f.household(1, 2, 0);
    f.household(2, 2, 0);
    for (int i = 0; i < 99; i++) f.right(1, 0, 0, 0, 1, 0, 0, false);
    years(f, 3);
    due("100", f.count(4), 100);
    due("household 0", f.rightOf(99, 1), 0);
    years(f, 3);
    due("still", f.count(4), 100);
    // land that is nobody's leaves units nobody's
    PewRank l = church(4);
    l.household(1, 4, 0);
    l.household(1, 1, 0);
    l.right(1, 2, 0, 0, 4, 0, 199, false);
    years(l, 2);
    l.sell(2, 0);
    l.go();
    due("by land in the third year", l.seat(0, 2, 3), 1);
    due("no custom", l.count(4), 1);
  }

  private static void longGo() {
    PewRank x = church(4);
    x.household(1, 4, 0);
    x.right(0, 0, 0, 0, 4, 0, 195, false);
    for (int y = 0; y < 199; y++) due("go " + y, x.go(), 1);
    due("199 it is", x.go(), -9);
    due("199 it is", x.count(0), 199);
    due("custom of the years 196 to 198", x.count(4), 2);
    due("since", x.rightOf(1, 5) * 1000 + x.rightOf(1, 6), 199199);
    due("beside", x.beside(1), 1);
    due("sat", x.householdOf(0, 4), 199);
  }

  private static void seat() {
    PewRank x = new PewRank();
    x.bench(0, 0, 4, false);
    x.bench(0, 1, 6, false);
    x.pulpit(0, 1, 1000);
    x.household(7, 3, 1);
    x.household(3, 7, 0);
    x.household(2, 1, 0);
    x.right(0, 2, 0, 3, 1, 0, 199, false);
    due("none yet", x.seat(0, 0, 0), -1);
    x.go();
    int worth = x.worth(0, 1, 0);
    int[] want = {1, 0, 3, 0, worth};
    for (int what = 0; what < 5; what++) due("seat " + what, x.seat(0, 0, what), want[what]);
    due("by a right", x.seat(2, 0, 3), 1);
    due("unit", x.seat(2, 0, 1), 3);
    due("it did not", x.seat(1, 0, 0), -1);
    x.pulpit(60, 60, 1);
    x.changed(0, 1, 1, 0);
    due("worth as it was", x.seat(0, 0, 4), worth);
    due("units as they were", x.seat(0, 0, 2), 3);
    x.go();
    due("now", x.seat(0, 1, 2), 1);
    due("then", x.seat(0, 0, 2), 3);
    int[][] none = {{-1, 0, 0}, {3, 0, 0}, {12, 0, 0}, {0, -1, 0}, {0, 2, 0}, {0, 200, 0}, {0, 0, -1}, {0, 0, 5}, {MAX, 0, 0}, {0, MIN, 0}, {0, 0, MAX}};
    for (int[] b : none) due("no such ones", x.seat(b[0], b[1], b[2]), -1);
    x.gone(0, -1);
    x.go();
    due("gone", x.seat(0, 2, 0), -1);
    due("as it was", x.seat(0, 1, 0), 0);
  }

  private static void moved() {
    PewRank x = church(8);
    x.household(5, 2, 0);
    x.household(4, 2, 0);
    x.household(3, 2, 0);
    due("none yet", x.moved(0, 0), -2);
    x.go();
    due("the same", x.moved(0, 0), 0);
    x.changed(0, 5, 1, 0);
    x.go();
    due("0 on another run, as it is shorter; 1 and 2 move up", x.moved(0, 1), 3);
    due("and back", x.moved(1, 0), 3);
    x.gone(1, -1);
    x.household(9, 1, 0);
    x.go();
    due("of those who sat in both", x.moved(1, 2), 2);
    due("and from the first", x.moved(0, 2), 2);
    int[][] bad = {{-1, 0}, {0, -1}, {3, 0}, {0, 3}, {MAX, 0}, {0, MIN}, {200, 200}};
    for (int[] b : bad) due("moved", x.moved(b[0], b[1]), -2);
  }

  private static void beside() {
    PewRank x = new PewRank();
    for (int what = 0; what < 6; what++) due("nothing " + what, x.beside(what), 0);
    x.bench(0, 0, 4, false);
    x.pulpit(0, 0, 1000);
    // heard are 100, 90, 71, 52
    x.household(9, 2, 0);
    x.household(0, 1, 0);
    x.right(0, 1, 0, 0, 1, 0, 199, false);
    due("all worth", x.beside(0), (90 + 71 + 2) * 10 + 101);
    due("how many", x.beside(1), 2);
    due("units", x.beside(2), 3);
    due("all worth without rights", x.beside(3), 192 * 10 + 72);
    due("how many without", x.beside(4), 2);
    due("units without", x.beside(5), 3);
    x.right(0, 1, 0, 0, 4, 0, 199, false);
    due("all is 1's", x.beside(0), 101);
    due("one", x.beside(1), 1);
    due("one unit", x.beside(2), 1);
    due("nobody's", x.beside(4), 2);
    due("others", x.beside(-1), -2);
    due("others", x.beside(6), -2);
    due("others", x.beside(MAX), -2);
    due("others", x.beside(MIN), -2);
    due("nothing is done", x.count(0), 0);
    due("nothing is done", x.seat(0, 0, 0), -1);
    x.go();
    due("nor later", x.beside(5) * 10 + x.seat(1, 0, 1), 30);
    due("nor later", x.householdOf(1, 4), 1);
    // the most that can be: no sum runs over
    PewRank y = new PewRank();
    for (int b = 0; b < 8; b++) y.bench(0, 0, 32, false);
    y.pulpit(16, 0, 100000);
    for (int h = 0; h < 12; h++) y.household(99, 12, 9);
    due("twelve sit", y.beside(1), 12);
    due("144 units", y.beside(2), 144);
  }

  private static void householdOf() {
    PewRank x = church(8);
    x.household(7, 3, 2);
    x.household(1, 1, 0);
    int[] want = {7, 3, 2, 0, 0, 0};
    for (int what = 0; what < 6; what++) due("householdOf " + what, x.householdOf(0, what), want[what]);
    x.right(0, 0, 0, 0, 1, 0, 0, true);
    x.right(0, 0, 0, 0, 1, 1, 9, true);
    x.right(1, 4, 0, 0, 1, 0, 9, true);
    due("one in year 0", x.householdOf(0, 5), 1);
    x.sell(4, 0);
    due("land, too", x.householdOf(0, 5), 2);
    x.go();
    due("of year 1", x.householdOf(0, 5), 2);
    due("sat once", x.householdOf(0, 4), 1);
    x.gone(0, 1);
    due("gone", x.householdOf(0, 3), 1);
    due("holds none", x.householdOf(0, 5), 0);
    due("the heir does", x.householdOf(1, 5), 2);
    x.go();
    due("sat no more", x.householdOf(0, 4), 1);
    due("sat twice", x.householdOf(1, 4), 2);
    int[][] bad = {{-1, 0}, {2, 0}, {0, -1}, {0, 6}, {MAX, 0}, {0, MIN}};
    for (int[] b : bad) due("householdOf", x.householdOf(b[0], b[1]), -2);
  }

  private static void benchOf() {
    PewRank x = new PewRank();
    x.bench(3, 4, 5, true);
    x.bench(1, 2, 6, false);
    int[] want = {3, 4, 5, 1, 0, 5};
    for (int what = 0; what < 6; what++) due("benchOf " + what, x.benchOf(0, what), want[what]);
    due("no gallery", x.benchOf(1, 3), 0);
    x.household(0, 1, 0);
    x.right(0, 0, 0, 0, 2, 0, 0, false);
    x.right(2, 0, 0, 1, 2, 0, 9, false);
    x.right(1, 0, 0, 0, 5, 0, 9, false);
    due("somebody's", x.benchOf(0, 4), 3);
    due("nobody's", x.benchOf(0, 5), 2);
    due("the other", x.benchOf(1, 5), 6);
    x.go();
    due("somebody's in year 1", x.benchOf(0, 4), 2);
    x.sell(0, 0);
    due("by land", x.benchOf(0, 4), 5);
    int[][] bad = {{-1, 0}, {2, 0}, {0, -1}, {0, 6}, {MAX, 0}, {0, MIN}, {8, 4}};
    for (int[] b : bad) due("benchOf", x.benchOf(b[0], b[1]), -2);
  }

  private static void count() {
    PewRank x = church(4, 4);
    x.pillar(0, 0, 0);
    for (int i = 0; i < 3; i++) x.household(0, 1, 0);
    for (int i = 0; i < 4; i++) x.right(0, 0, 0, 0, 1, 0, 0, false);
    for (int i = 0; i < 5; i++) x.lot(0, 0, 1, 1);
    for (int i = 0; i < 6; i++) x.sell(i, 0);
    x.row(2, 0, 0);
    x.row(3, 0, 9);
    x.go();
    x.gone(1, 0);
    int[] want = {1, 2, 1, 3, 4, 5, 6, 2, 2};
    for (int what = 0; what < 9; what++) due("count " + what, x.count(what), want[what]);
    int[] bad = {-1, 9, MAX, MIN};
    for (int b : bad) due("count", x.count(b), -1);
  }

  private static void fund() {
    PewRank x = church(4);
    x.household(0, 1, 0);
    x.household(0, 1, 0);
    for (int i = 1; i < 4; i++) {
      x.lot(0, 0, 1, 1);
      fill(x, 0, 1, 10000, 100 * i);
      x.offers(0, 0);
      due("knock", x.knock(), 100 * i);
    }
    x.knock();
    due("in all", x.fund(), 600);
  }

  private static void row() {
    PewRank x = new PewRank();
    int[][] bad = {{-1, 0, 1}, {4, 0, 1}, {0, -1, 1}, {0, 4, 1}, {0, 0, 61}, {0, 0, MAX}, {MAX, 0, -1}, {0, MIN, -1}, {0, 4, -1}};
    for (int[] b : bad) due("row", x.row(b[0], b[1], b[2]), -2);
    due("below 0", x.row(0, 0, -1), -3);
    due("below 0", x.row(0, 0, MIN), -3);
    due("nothing yet", x.count(7), 0);
    due("the longest", x.row(3, 3, 60), 0);
    due("the last number", x.write(3, 59, 1), 0);
    due("below 0, the place stays", x.row(3, 0, -1), -3);
    due("the last number", x.write(3, 59, 1), 0);
    due("in place of another one", x.row(3, 1, 3), 0);
    due("no such number now", x.write(3, 3, 1), -6);
    x.bench(0, 0, 4, false);
    x.household(0, 1, 0);
    fill(x, 0, 0, 5, 5);
    x.row(0, 0, 2);
    x.lot(0, 0, 1, 1);
    due("all 0", x.offers(0, 0), 0);
    due("an empty one", x.row(1, 0, 0), 0);
    due("has no numbers", x.write(1, 0, 1), -6);
  }

  private static void tear() {
    PewRank x = new PewRank();
    int[] bad = {-1, 0, 3, 4, MAX, MIN};
    for (int b : bad) due("tear", x.tear(b), false);
    x.row(3, 0, 0);
    due("tear", x.tear(3), true);
    due("again", x.tear(3), false);
    due("nothing", x.write(3, 0, 0), -5);
    due("none", x.count(7), 0);
  }

  /** What a row holds is seen by who can come on a Sunday. */
  private static void write() {
    PewRank x = church(4);
    x.household(0, 1, 0);
    due("no such place", x.write(-1, 0, 0), -2);
    due("no such place", x.write(4, 0, 0), -2);
    due("no such place", x.write(MIN, 0, 0), -2);
    due("nothing there", x.write(0, 0, 0), -5);
    x.row(0, 0, 2);
    int[] beyond = {-1, 2, MAX, MIN};
    for (int i : beyond) due("beyond", x.write(0, i, 0), -6);
    for (int width = 0; width < 4; width++) {
      int bits = 8 << width;
      x.row(0, width, 1);
      due("write", x.write(0, 0, width == 3 ? 0 : 1L << bits), 0);
      due("cut to 0", x.sunday(0, 0), 0);
      x.write(0, 0, width == 3 ? -1 : (1L << bits) - 1);
      due("cut to -1", x.sunday(0, 0), 0);
      x.write(0, 0, 1L << (bits - 1));
      due("cut to the least number", x.sunday(0, 0), -4);
      x.write(0, 0, Long.MIN_VALUE);
      due("the least number of all", x.sunday(0, 0), width == 3 ? -4 : 0);
    }
    x.lot(0, 0, 1, 1);
    x.row(1, 0, 1);
    x.write(1, 0, 255);
    due("255 is -1", x.offers(0, 1), -4);
    x.row(1, 1, 1);
    x.write(1, 0, 65535);
    due("65535 is -1", x.offers(0, 1), -4);
    x.write(1, 0, 65536 + 9);
    due("9", x.offers(0, 1), 1);
  }

  private static void paste() {
    PewRank x = church(4);
    for (int i = 0; i < 6; i++) x.household(0, 1, 0);
    int[][] no = {{-1, 0}, {4, 0}, {0, -1}, {0, 4}, {MAX, MIN}};
    for (int[] b : no) due("no such place", x.paste(b[0], 0, b[1], 0, 0), -2);
    due("nothing", x.paste(0, 0, 1, 0, 0), -5);
    fill(x, 0, 1, 1, 2, 3, 4, 5, 6);
    due("one has nothing", x.paste(0, 0, 1, 0, 0), -5);
    due("the other has nothing", x.paste(1, 0, 0, 0, 0), -5);
    x.row(1, 2, 6);
    due("not of one width", x.paste(0, 0, 1, 0, -1), -7);
    x.row(1, 1, 4);
    int[][] beyond = {{-1, 0, 1}, {0, -1, 1}, {0, 0, -1}, {0, 0, 5}, {2, 0, 5}, {6, 0, 1}, {0, 4, 1}, {1, 0, MAX}, {MAX, 0, MAX}, {0, MAX, 1}, {MIN, MIN, MIN}};
    for (int[] b : beyond) due("beyond", x.paste(0, b[0], 1, b[1], b[2]), -6);
    due("nothing happened", offered(x, 1), 0);
    due("none, at the ends", x.paste(0, 6, 1, 4, 0), 0);
    due("some", x.paste(0, 1, 1, 2, 2), 0);
    due("put", offered(x, 1), 3200);
    due("from itself, forward", x.paste(0, 0, 0, 1, 5), 0);
    due("as they were", offered(x, 0), 543211);
    due("from itself, back", x.paste(0, 1, 0, 0, 5), 0);
    due("as they were", offered(x, 0), 554321);
  }

  /** Numbers 0 to 9 of a row, each as offered by a household for a lot of its own, as digits, the first last. */
  private static int offered(PewRank x, int place) {
    int digits = 0;
    for (int i = 0, ten = 1; i < 6; i++, ten *= 10) {
      x.row(3, 1, 6);
      x.lot(0, 0, 1, 1);
      if (x.paste(place, i, 3, i, 1) == 0) {
        x.offers(0, 3);
        x.knock();
        digits += ten * (int) x.knocked(i, 2);
      } else {
        x.knock();
      }
    }
    return digits;
  }
}

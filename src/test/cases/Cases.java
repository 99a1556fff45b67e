import java.util.function.IntToLongFunction;
import java.util.function.Supplier;
import java.util.function.ToLongFunction;

/** Tests of sentences: each quotes the one that it holds the class to, and makes objects of its own. */
abstract class Cases {
  static final int MAX = Integer.MAX_VALUE;
  static final int MIN = Integer.MIN_VALUE;

  private final Document document;
  private String section = "";
  private String words = "";
  private int tests = 0;
  private int wrong = 0;

  Cases(Document document) {
    this.document = document;
  }

  abstract void all();

  int tests() {
    return tests;
  }

  int wrong() {
    return wrong;
  }

  void in(String name) {
    section = name;
  }

  void test(String quote, Runnable calls) {
    words = quote;
    tests++;
    if (!document.quote(section, quote)) fail("the document does not say that");
    calls.run();
  }

  private void fail(String why) {
    wrong++;
    System.out.println(section + ", \"" + words + "\": " + why);
  }

  void due(String what, long got, long want) {
    if (got != want) fail(what + " answered " + got + ", due is " + want);
  }

  void due(String what, boolean got, boolean want) {
    if (got != want) fail(what + " answered " + got + ", due is " + want);
  }

  /** From the least to the most a call is taken, one below and one above it is refused, and so is what is far off. */
  void range(int least, int most, long taken, long refused, IntToLongFunction call) {
    due("the least, " + least + ",", call.applyAsLong(least), taken);
    due("the most, " + most + ",", call.applyAsLong(most), taken);
    int[] outside = {least - 1, most + 1, MIN, MAX};
    for (int v : outside) due("the call with " + v, call.applyAsLong(v), refused);
  }

  /** A call is refused, and the object is afterwards as if it had never been called. */
  void refused(String what, Supplier<PewRank> making, long refusal, ToLongFunction<PewRank> call) {
    PewRank asked = making.get();
    due(what, call.applyAsLong(asked), refusal);
    String left = state(asked);
    String never = state(making.get());
    if (!left.equals(never)) fail(what + " left " + left + ", without it " + never);
  }

  // ---- churches --------------------------------------------------------------------------------

  /** Benches from the left wall on, one behind the other; nothing is heard there, and all see: worth goes by units. */
  static PewRank flat(int... units) {
    PewRank x = new PewRank();
    x.pulpit(60, 60, 1);
    for (int b = 0; b < units.length; b++) x.bench(0, b, units[b], false);
    return x;
  }

  /** One bench that begins at the pulpit: heard are 100, 90, 71, 52, 38, 28, 21, 16, 13, 10, 9, 7 and all see. */
  static PewRank sloped(int units) {
    PewRank x = new PewRank();
    x.pulpit(0, 0, 1000);
    x.bench(0, 0, units, false);
    return x;
  }

  static PewRank with(PewRank x, int... widths) {
    for (int w : widths) x.household(0, w, 0);
    return x;
  }

  /** Custom comes of thirty YEARS alone, so that it does not come in between. */
  static PewRank rare(PewRank x) {
    x.terms(30, 10);
    return x;
  }

  static PewRank years(PewRank x, int n) {
    for (int i = 0; i < n; i++) x.go();
    return x;
  }

  static void fill(PewRank x, int place, int width, long... numbers) {
    x.row(place, width, numbers.length);
    for (int i = 0; i < numbers.length; i++) x.write(place, i, numbers[i]);
  }

  /** Something of all that there can be, in YEAR 2, so that a refused call has much that it could spoil. */
  static PewRank furnished() {
    PewRank x = new PewRank();
    x.pulpit(5, 5, 900);
    x.bench(0, 0, 8, false);
    x.bench(10, 3, 6, true);
    x.pillar(6, 3, 1);
    x.household(5, 2, 1);
    x.household(12, 2, 0);
    x.household(3, 1, 0);
    x.household(2, 3, 0);
    x.right(0, 0, 0, 0, 3, 0, 90, true);
    x.right(1, 4, 1, 0, 2, 0, 90, false);
    x.sell(4, 2);
    x.lot(0, 5, 1, 9);
    fill(x, 0, 1, 4, 6, 7, 3);
    x.offers(0, 0);
    x.knock();
    years(x, 2);
    x.lot(0, 6, 2, 3);
    x.lot(1, 3, 2, 4);
    x.offers(0, 0);
    x.offers(1, 0);
    x.change(15);
    fill(x, 1, 0, 1, -2, 0, 3);
    x.sunday(1, 2);
    return x;
  }

  /** All that a small object tells, then what comes of its rows, its lots and the next YEAR: under 250 calls. */
  static String state(PewRank x) {
    StringBuilder s = new StringBuilder();
    int year = x.count(0);
    for (int what = 0; what < 9; what++) s.append(x.count(what)).append(' ');
    s.append(x.fund()).append("; ");
    for (int h = 0; h < Math.min(4, x.count(3)); h++) tellHousehold(s, x, h, year);
    for (int b = 0; b < Math.min(2, x.count(1)); b++) {
      for (int what = 0; what < 6; what++) s.append(x.benchOf(b, what)).append(' ');
      s.append(x.unit(b, 0, 0)).append(' ').append(x.unit(b, 3, 0)).append("; ");
    }
    for (int r = Math.max(0, x.count(4) - 4); r < x.count(4); r++) {
      for (int what = 0; what < 10; what++) s.append(x.rightOf(r, what)).append(' ');
    }
    for (int plot = 0; plot < 8; plot++) s.append(x.plotOf(plot, year)).append(' ');
    for (int i = 0; i < 5; i++) s.append(x.sat(i)).append(' ');
    for (int what = 0; what < 6; what++) s.append(x.beside(what)).append(' ');
    for (int place = 0; place < 4; place++) s.append(x.sunday(place, 1)).append(' ').append(x.sat(0)).append(' ');
    s.append(x.knock()).append(' ').append(x.go()).append(' ');
    for (int h = 0; h < Math.min(4, x.count(3)); h++) {
      s.append(x.knocked(h, 0)).append(' ').append(x.seat(h, year, 0)).append(' ').append(x.seat(h, year, 1)).append(' ');
    }
    return s.append(x.count(4)).toString();
  }

  private static void tellHousehold(StringBuilder s, PewRank x, int h, int year) {
    for (int what = 0; what < 6; what++) s.append(x.householdOf(h, what)).append(' ');
    for (int what = 0; what < 3; what++) s.append(x.knocked(h, what)).append(' ');
    for (int what = 0; what < 5; what++) s.append(x.seat(h, year - 1, what)).append(' ');
    s.append(x.changedTo(h)).append("; ");
  }
}

import java.util.Arrays;

/** A church's benches by rank; ../shared/DOC.md says what each call promises. */
public final class PewRank {
  public static final int NONE = -1;

  private static final int NOT_SUCH = -2;
  private static final int NO_MORE = -3;
  private static final int WRONG_NUMBER = -4;
  private static final int NOTHING_THERE = -5;
  private static final int BEYOND_ROW = -6;
  private static final int OTHER_WIDTH = -7;
  private static final int NOT_NOW = -9;

  private static final int LAST_POINT = 60;
  private static final int LAST_YEAR = 199;
  private static final int MOST_PILLARS = 8;
  private static final int MOST_BENCHES = 8;
  private static final int MOST_UNITS = 32;
  /** A spot is a unit of the whole church: its bench times MOST_UNITS, and the unit. */
  private static final int SPOTS = 256;
  private static final int MOST_HOUSEHOLDS = 12;
  private static final int ANYBODY = 4095;
  private static final int MOST_WIDTH = 12;
  private static final int MOST_RIGHTS = 100;
  private static final int PLOTS = 8;
  private static final int MOST_SALES = 100;
  private static final int MOST_LOTS = 8;
  private static final int LOT_SETS = 256;
  private static final int MOST_OFFERED = 10000;
  private static final int PLACES = 4;
  private static final int MOST_NUMBERS = 60;

  private static final int FACULTY = 0;
  private static final int LAND = 1;
  private static final int CUSTOM = 2;
  private static final int RENT = 3;

  private final Church church;
  private final Parish parish;
  private final Ledger ledger;
  private final Usher usher;
  private final Auction auction;
  private final Rings rings;
  private final Sundays sundays;
  private final Rows rows;
  private final Seating[] history;
  private final Seating thought;
  private final int[] owner;
  private int year;
  private int use;
  private int low;
  private long fund;

  public PewRank() {
    church = new Church();
    parish = new Parish();
    ledger = new Ledger();
    usher = new Usher(church, parish);
    auction = new Auction();
    rings = new Rings(church, parish);
    sundays = new Sundays(church, parish, usher);
    rows = new Rows();
    history = new Seating[LAST_YEAR + 1];
    thought = new Seating();
    owner = new int[SPOTS];
    use = 3;
    low = 10;
  }

  public int pulpit(int x, int y, int loud) {
    if (!isPoint(x) || !isPoint(y) || !isWithin(loud, 1, 100000)) {
      return NOT_SUCH;
    }
    church.standPulpit(x, y, loud);
    return 0;
  }

  public int terms(int use, int low) {
    if (!isWithin(use, 2, 30) || !isWithin(low, 0, 100)) {
      return NOT_SUCH;
    }
    this.use = use;
    this.low = low;
    return 0;
  }

  public int pillar(int x, int y, int half) {
    if (!isPoint(x) || !isPoint(y) || !isWithin(half, 0, 5)) {
      return NOT_SUCH;
    }
    return church.addPillar(x, y, half);
  }

  public int bench(int x, int y, int units, boolean gallery) {
    if (!isPoint(y) || !isWithin(units, 4, MOST_UNITS) || !isPoint(x) || !isPoint(x + units - 1)) {
      return NOT_SUCH;
    }
    if (church.benches >= MOST_BENCHES) {
      return NO_MORE;
    }
    if (year > 0) {
      return NOT_NOW;
    }
    return church.addBench(x, y, units, gallery);
  }

  public int household(int rank, int width, int deaf) {
    if (!isHouseholdAsTold(rank, width, deaf)) {
      return NOT_SUCH;
    }
    return parish.addHousehold(rank, width, deaf);
  }

  public int changed(int household, int rank, int width, int deaf) {
    Household who = parish.find(household);
    if (who == null || who.isGone || !isHouseholdAsTold(rank, width, deaf)) {
      return NOT_SUCH;
    }
    who.rank = rank;
    who.width = width;
    who.deaf = deaf;
    return 0;
  }

  public int gone(int household, int heir) {
    Household who = parish.find(household);
    if (who == null || who.isGone || heir == household) {
      return NOT_SUCH;
    }
    if (heir != NONE && !parish.isStaying(heir)) {
      return NOT_SUCH;
    }
    int passing = heir == NONE ? 0 : ledger.heritableOf(household, year);
    if (passing > ledger.numbersLeft()) {
      return NO_MORE;
    }
    ledger.passRights(household, heir, year);
    ledger.passPlots(household, heir, year);
    auction.dropOffersOf(household);
    who.isGone = true;
    return passing;
  }

  public int sell(int plot, int household) {
    if (!ledger.isPlot(plot) || (household != NONE && !parish.isStaying(household))) {
      return NOT_SUCH;
    }
    if (ledger.sales >= MOST_SALES) {
      return NO_MORE;
    }
    int before = ledger.plotOwner(plot, year);
    ledger.givePlot(plot, household, year);
    ledger.sales++;
    return before;
  }

  public int plotOf(int plot, int year) {
    if (!ledger.isPlot(plot) || !isYear(year)) {
      return NOT_SUCH;
    }
    return ledger.plotOwner(plot, year);
  }

  public int right(int kind, int holder, int bench, int from, int units, int since, int until, boolean heirs) {
    if (!isWithin(kind, FACULTY, RENT) || !church.hasRun(bench, from, units)) {
      return NOT_SUCH;
    }
    boolean isHolder = kind == LAND ? ledger.isPlot(holder) : parish.isHousehold(holder);
    if (!isHolder || !isYear(since) || !isYear(until) || since > until) {
      return NOT_SUCH;
    }
    if (ledger.numbersLeft() < 1) {
      return NO_MORE;
    }
    Right told = new Right(kind, holder, bench, from, units);
    told.setYears(since, since, until, year);
    told.heirs = heirs;
    return ledger.enter(told);
  }

  public boolean ends(int right) {
    Right which = ledger.find(right);
    if (which == null || which.until < year) {
      return false;
    }
    which.endAhead(year);
    return true;
  }

  public int rightOf(int right, int what) {
    Right which = ledger.find(right);
    return which == null ? NOT_SUCH : which.detail(what);
  }

  public int unit(int bench, int unit, int what) {
    if (!church.hasUnit(bench, unit)) {
      return NOT_SUCH;
    }
    int spot = bench * MOST_UNITS + unit;
    switch (what) {
      case 0: return church.hearing[spot];
      case 1: return church.inWay[spot];
      case 2: return church.inWay[spot] == 0 ? 1 : 0;
      default: return NOT_SUCH;
    }
  }

  public int worth(int household, int bench, int unit) {
    Household who = parish.find(household);
    if (who == null || !church.hasRun(bench, unit, who.width)) {
      return NOT_SUCH;
    }
    return church.worthOf(bench * MOST_UNITS + unit, who.width, who.deaf);
  }

  public int belongs(int bench, int unit, int year, int known, int what) {
    if (!isAsked(bench, unit, year, known) || !isWithin(what, 0, 1)) {
      return NOT_SUCH;
    }
    int best = ledger.bestFor(bench, unit, year, known, ANYBODY);
    return what == 1 ? best : ledger.holderOf(best, year);
  }

  public int judge(int a, int b, int bench, int unit, int year, int known) {
    if (!parish.isHousehold(a) || !parish.isHousehold(b) || a == b || !isAsked(bench, unit, year, known)) {
      return NOT_SUCH;
    }
    int best = ledger.bestFor(bench, unit, year, known, (1 << a) | (1 << b));
    return ledger.holderOf(best, year);
  }

  public int lot(int bench, int from, int units, int years) {
    if (!church.hasRun(bench, from, units) || !isWithin(years, 1, 30)) {
      return NOT_SUCH;
    }
    return auction.putUp(bench, from, units, years);
  }

  public int offers(int lot, int place) {
    if (!auction.isLot(lot) || !rows.isPlace(place)) {
      return NOT_SUCH;
    }
    if (!rows.isFilled(place)) {
      return NOTHING_THERE;
    }
    for (int i = 0; i < rows.lengthOf(place); i++) {
      long offered = rows.numberAt(place, i);
      if (offered < 0 || offered > MOST_OFFERED) {
        return WRONG_NUMBER;
      }
    }
    int above = 0;
    for (int h = 0; h < MOST_HOUSEHOLDS; h++) {
      int offered = parish.isStaying(h) ? (int) rows.numberAt(place, h) : 0;
      auction.noteOffer(lot, h, offered);
      above += offered > 0 ? 1 : 0;
    }
    return above;
  }

  public long knock() {
    if (auction.lots == 0) {
      return NONE;
    }
    if (auction.findWinners() > ledger.numbersLeft()) {
      return NO_MORE;
    }
    auction.findPrices();
    for (int h = 0; h < MOST_HOUSEHOLDS; h++) {
      enterRent(h);
    }
    fund += auction.income();
    auction.close();
    return auction.income();
  }

  public long knocked(int household, int what) {
    if (!parish.isHousehold(household) || !auction.wasHeld) {
      return NOT_SUCH;
    }
    switch (what) {
      case 0: return auction.lotOf[household];
      case 1: return auction.priceOf[household];
      case 2: return auction.offeredInAll;
      default: return NOT_SUCH;
    }
  }

  public int change(int set) {
    if ((set >>> parish.size) != 0) {
      return NOT_SUCH;
    }
    Seating latest = latestSeating();
    if (latest == null) {
      return NOT_NOW;
    }
    return rings.turn(set, latest);
  }

  public int changedTo(int household) {
    return parish.isHousehold(household) ? rings.to[household] : NONE;
  }

  public int sunday(int place, int bell) {
    if (!rows.isPlace(place) || !isWithin(bell, 0, MOST_NUMBERS)) {
      return NOT_SUCH;
    }
    if (!rows.isFilled(place)) {
      return NOTHING_THERE;
    }
    if (!sundays.canCome(rows, place)) {
      return WRONG_NUMBER;
    }
    ledger.fillOwners(year, owner);
    sundays.open(owner, latestSeating(), low);
    return sundays.hold(rows, place, bell);
  }

  public int sat(int i) {
    if (i < 0 || i >= sundays.came) {
      return NONE;
    }
    int spot = sundays.spotOf[i];
    return spot == NONE ? NONE : spot / MOST_UNITS * 100 + spot % MOST_UNITS;
  }

  public int go() {
    if (year >= LAST_YEAR) {
      return NOT_NOW;
    }
    Seating seating = new Seating();
    ledger.fillOwners(year, owner);
    usher.seatAll(seating, owner, low);
    history[year] = seating;
    for (int h = 0; h < parish.size; h++) {
      parish.noteYear(h, seating.isSitting(h));
      if (hasComeToCustom(h)) {
        enterCustom(h, seating);
      }
    }
    year++;
    return seating.sitting;
  }

  public int seat(int household, int year, int what) {
    Seating then = seatingOf(year);
    if (then == null || !then.isSitting(household)) {
      return NONE;
    }
    switch (what) {
      case 0: return then.spot[household] / MOST_UNITS;
      case 1: return then.spot[household] % MOST_UNITS;
      case 2: return then.width[household];
      case 3: return then.byRight[household] ? 1 : 0;
      case 4: return then.worth[household];
      default: return NONE;
    }
  }

  public int moved(int a, int b) {
    Seating one = seatingOf(a);
    Seating other = seatingOf(b);
    if (one == null || other == null) {
      return NOT_SUCH;
    }
    int movers = 0;
    for (int h = 0; h < parish.size; h++) {
      if (one.isSitting(h) && other.isSitting(h) && !one.isSameRun(other, h)) {
        movers++;
      }
    }
    return movers;
  }

  public long beside(int what) {
    if (!isWithin(what, 0, 5)) {
      return NOT_SUCH;
    }
    if (what < 3) {
      ledger.fillOwners(year, owner);
    } else {
      Arrays.fill(owner, NONE);
    }
    usher.seatAll(thought, owner, low);
    switch (what % 3) {
      case 0: return parish.worthOfAll(thought);
      case 1: return thought.sitting;
      default: return thought.unitsSatOn();
    }
  }

  public int householdOf(int household, int what) {
    Household who = parish.find(household);
    if (who == null) {
      return NOT_SUCH;
    }
    switch (what) {
      case 0: return who.rank;
      case 1: return who.width;
      case 2: return who.deaf;
      case 3: return who.isGone ? 1 : 0;
      case 4: return who.yearsSat;
      case 5: return ledger.heldBy(household, year);
      default: return NOT_SUCH;
    }
  }

  public int benchOf(int bench, int what) {
    if (bench < 0 || bench >= church.benches) {
      return NOT_SUCH;
    }
    switch (what) {
      case 0: return church.benchX[bench];
      case 1: return church.benchY[bench];
      case 2: return church.benchUnits[bench];
      case 3: return church.isGallery[bench] ? 1 : 0;
      case 4: return ownedUnits(bench);
      case 5: return church.benchUnits[bench] - ownedUnits(bench);
      default: return NOT_SUCH;
    }
  }

  public int count(int what) {
    switch (what) {
      case 0: return year;
      case 1: return church.benches;
      case 2: return church.pillars;
      case 3: return parish.size;
      case 4: return ledger.size;
      case 5: return auction.lots;
      case 6: return ledger.sales;
      case 7: return rows.filled();
      case 8: return parish.staying();
      default: return NONE;
    }
  }

  public long fund() {
    return fund;
  }

  public int row(int place, int width, int n) {
    if (!rows.isPlace(place) || !isWithin(width, 0, 3) || n > MOST_NUMBERS) {
      return NOT_SUCH;
    }
    if (n < 0) {
      return NO_MORE;
    }
    rows.lay(place, width, n);
    return 0;
  }

  public boolean tear(int place) {
    if (!rows.isPlace(place) || !rows.isFilled(place)) {
      return false;
    }
    rows.clear(place);
    return true;
  }

  public int write(int place, int i, long v) {
    if (!rows.isPlace(place)) {
      return NOT_SUCH;
    }
    if (!rows.isFilled(place)) {
      return NOTHING_THERE;
    }
    return rows.put(place, i, v);
  }

  public int paste(int place, int i, int to, int k, int n) {
    if (!rows.isPlace(place) || !rows.isPlace(to)) {
      return NOT_SUCH;
    }
    if (!rows.isFilled(place) || !rows.isFilled(to)) {
      return NOTHING_THERE;
    }
    return rows.copy(place, i, to, k, n);
  }

  private static boolean isWithin(int v, int least, int most) {
    return v >= least && v <= most;
  }

  private static boolean isPoint(int v) {
    return isWithin(v, 0, LAST_POINT);
  }

  private static boolean isYear(int v) {
    return isWithin(v, 0, LAST_YEAR);
  }

  private static boolean isHouseholdAsTold(int rank, int width, int deaf) {
    return isWithin(rank, 0, 99) && isWithin(width, 1, MOST_WIDTH) && isWithin(deaf, 0, 9);
  }

  private boolean isAsked(int bench, int unit, int asked, int known) {
    return church.hasUnit(bench, unit) && isYear(asked) && isWithin(known, 0, year);
  }

  private Seating seatingOf(int which) {
    return which >= 0 && which < year && which < history.length ? history[which] : null;
  }

  private Seating latestSeating() {
    return seatingOf(year - 1);
  }

  private int ownedUnits(int bench) {
    ledger.fillOwners(year, owner);
    int owned = 0;
    for (int u = 0; u < church.benchUnits[bench]; u++) {
      if (owner[bench * MOST_UNITS + u] != NONE) {
        owned++;
      }
    }
    return owned;
  }

  private void enterRent(int h) {
    int lot = auction.lotOf[h];
    if (!auction.isLot(lot)) {
      return;
    }
    Right rent = new Right(RENT, h, auction.bench[lot], auction.from[lot], auction.units[lot]);
    rent.setYears(year, year, Math.min(LAST_YEAR, year + auction.years[lot] - 1), year);
    rent.price = auction.priceOf[h];
    ledger.enter(rent);
  }

  /** Who sat by rank sat on units that belonged to nobody, by all that was known in that year. */
  private boolean hasComeToCustom(int h) {
    Seating now = history[year];
    if (now == null || !now.isSitting(h) || year + 1 < use) {
      return false;
    }
    for (int y = year - use + 1; y <= year; y++) {
      Seating then = history[y];
      if (then == null || !then.isSitting(h) || then.byRight[h] || !then.isSameRun(now, h)) {
        return false;
      }
    }
    return true;
  }

  private void enterCustom(int h, Seating seating) {
    if (ledger.numbersLeft() < 1) {
      return;
    }
    int spot = seating.spot[h];
    Right custom = new Right(CUSTOM, h, spot / MOST_UNITS, spot % MOST_UNITS, seating.width[h]);
    custom.setYears(year + 1, year + 1, LAST_YEAR, year + 1);
    ledger.enter(custom);
  }

  /** Pulpit, pillars and benches; what is heard and seen is measured when one of them changes. */
  private static final class Church {
    int pulpitX = 30;
    int pulpitY = 60;
    int pulpitLoud = 4000;
    int pillars;
    final int[] pillarX = new int[MOST_PILLARS];
    final int[] pillarY = new int[MOST_PILLARS];
    final int[] pillarHalf = new int[MOST_PILLARS];
    int benches;
    final int[] benchX = new int[MOST_BENCHES];
    final int[] benchY = new int[MOST_BENCHES];
    final int[] benchUnits = new int[MOST_BENCHES];
    final boolean[] isGallery = new boolean[MOST_BENCHES];
    final int[] hearing = new int[SPOTS];
    final int[] inWay = new int[SPOTS];

    void standPulpit(int x, int y, int loud) {
      pulpitX = x;
      pulpitY = y;
      pulpitLoud = loud;
      measureAll();
    }

    int addPillar(int x, int y, int half) {
      if (pillars >= MOST_PILLARS) {
        return NO_MORE;
      }
      pillarX[pillars] = x;
      pillarY[pillars] = y;
      pillarHalf[pillars] = half;
      pillars++;
      measureAll();
      return pillars - 1;
    }

    int addBench(int x, int y, int units, boolean gallery) {
      if (benches >= MOST_BENCHES) {
        return NO_MORE;
      }
      benchX[benches] = x;
      benchY[benches] = y;
      benchUnits[benches] = units;
      isGallery[benches] = gallery;
      benches++;
      measureBench(benches - 1);
      return benches - 1;
    }

    boolean hasUnit(int b, int u) {
      return b >= 0 && b < benches && u >= 0 && u < benchUnits[b];
    }

    boolean hasRun(int b, int from, int width) {
      return hasUnit(b, from) && width >= 1 && width <= benchUnits[b] - from;
    }

    boolean isUnitSpot(int spot) {
      return spot >= 0 && hasUnit(spot / MOST_UNITS, spot % MOST_UNITS);
    }

    /** The first spot behind all benches. */
    int spotsEnd() {
      return benches * MOST_UNITS;
    }

    /** NONE, if the run from that spot on is none. */
    int worthOf(int spot, int width, int deaf) {
      if (spot < 0 || !hasRun(spot / MOST_UNITS, spot % MOST_UNITS, width)) {
        return NONE;
      }
      int together = 0;
      int greatest = 0;
      for (int s = spot; s < spot + width; s++) {
        together += hearing[s] + (inWay[s] == 0 ? 1 : 0);
        greatest = Math.max(greatest, hearing[s]);
      }
      return together + deaf * greatest;
    }

    private void measureAll() {
      for (int b = 0; b < benches; b++) {
        measureBench(b);
      }
    }

    private void measureBench(int b) {
      for (int u = 0; u < benchUnits[b]; u++) {
        int x = benchX[b] + u;
        int y = benchY[b];
        int hiding = 0;
        for (int p = 0; p < pillars; p++) {
          hiding += isInWay(p, x, y) ? 1 : 0;
        }
        int spot = b * MOST_UNITS + u;
        inWay[spot] = hiding;
        hearing[spot] = heardAt(x, y, hiding, isGallery[b]);
      }
    }

    private int heardAt(int x, int y, int hiding, boolean gallery) {
      int dx = pulpitX - x;
      int dy = pulpitY - y;
      int heard = (pulpitLoud / (10 + dx * dx + dy * dy)) >> hiding;
      return gallery ? heard * 3 / 4 : heard;
    }

    /** A line and a square that don't meet lie apart by x, by y, or on one side of the line. */
    private boolean isInWay(int p, int x, int y) {
      int left = pillarX[p] - pillarHalf[p];
      int right = pillarX[p] + pillarHalf[p];
      int low = pillarY[p] - pillarHalf[p];
      int high = pillarY[p] + pillarHalf[p];
      if (Math.max(x, pulpitX) < left || Math.min(x, pulpitX) > right) {
        return false;
      }
      if (Math.max(y, pulpitY) < low || Math.min(y, pulpitY) > high) {
        return false;
      }
      int lowLeft = sideOf(x, y, left, low);
      int lowRight = sideOf(x, y, right, low);
      int highLeft = sideOf(x, y, left, high);
      int highRight = sideOf(x, y, right, high);
      int least = Math.min(Math.min(lowLeft, lowRight), Math.min(highLeft, highRight));
      int most = Math.max(Math.max(lowLeft, lowRight), Math.max(highLeft, highRight));
      return least <= 0 && most >= 0;
    }

    /** Below, at or above 0: on which side of the line from x, y to the pulpit a corner lies. */
    private int sideOf(int x, int y, int cornerX, int cornerY) {
      return (pulpitX - x) * (cornerY - y) - (pulpitY - y) * (cornerX - x);
    }
  }

  private static final class Household {
    int rank;
    int width;
    int deaf;
    boolean isGone;
    int yearsSat;

    Household(int rank, int width, int deaf) {
      this.rank = rank;
      this.width = width;
      this.deaf = deaf;
    }
  }

  private static final class Parish {
    final Household[] households = new Household[MOST_HOUSEHOLDS];
    int size;

    int addHousehold(int rank, int width, int deaf) {
      if (size >= MOST_HOUSEHOLDS) {
        return NO_MORE;
      }
      households[size] = new Household(rank, width, deaf);
      size++;
      return size - 1;
    }

    boolean isHousehold(int h) {
      return h >= 0 && h < size;
    }

    /** null, if there is none such. */
    Household find(int h) {
      return isHousehold(h) ? households[h] : null;
    }

    private int rankOf(int h) {
      Household who = find(h);
      return who == null ? NONE : who.rank;
    }

    boolean isStaying(int h) {
      Household who = find(h);
      return who != null && !who.isGone;
    }

    int staying() {
      int stay = 0;
      for (int h = 0; h < size; h++) {
        stay += isStaying(h) ? 1 : 0;
      }
      return stay;
    }

    void noteYear(int h, boolean sat) {
      Household who = find(h);
      if (who != null && sat) {
        who.yearsSat++;
      }
    }

    /** Those who are not gone, the greatest rank first, then the least number: how many. */
    int fillOrder(int[] order) {
      int n = 0;
      for (int h = 0; h < size && n < order.length; h++) {
        Household who = find(h);
        if (who == null || who.isGone) {
          continue;
        }
        int at = n;
        while (at > 0 && rankOf(order[at - 1]) < who.rank) {
          order[at] = order[at - 1];
          at--;
        }
        order[at] = h;
        n++;
      }
      return n;
    }

    long worthOfAll(Seating seating) {
      long all = 0;
      for (int h = 0; h < size; h++) {
        Household who = find(h);
        if (who != null && seating.isSitting(h)) {
          all += (long) seating.worth[h] * (who.rank + 1);
        }
      }
      return all;
    }
  }

  private static final class Right {
    final int kind;
    final int holder;
    final int bench;
    final int from;
    final int units;
    int since;
    /** An heir's right counts since its forebear's year, but is for none ahead of its own first. */
    int firstYear;
    int until;
    int knownIn;
    boolean heirs;
    int price;
    /** What was known ahead of its end stays: until when it was, and in which year the end was told. */
    int untilBefore;
    int endToldIn = LAST_YEAR + 1;

    Right(int kind, int holder, int bench, int from, int units) {
      this.kind = kind;
      this.holder = holder;
      this.bench = bench;
      this.from = from;
      this.units = units;
    }

    void setYears(int since, int firstYear, int until, int knownIn) {
      this.since = since;
      this.firstYear = firstYear;
      this.until = until;
      this.untilBefore = until;
      this.knownIn = knownIn;
    }

    /** To be called once: one that has ended is for no year from then on. */
    void endAhead(int year) {
      until = year - 1;
      endToldIn = year;
    }

    boolean isOn(int b, int u) {
      return bench == b && u >= from && u < from + units;
    }

    boolean isFor(int year, int known) {
      int end = known >= endToldIn ? until : untilBefore;
      return knownIn <= known && firstYear <= year && year <= end;
    }

    /** Land is held by a plot, not by the household itself. */
    boolean isStillHeldBy(int household, int year) {
      return kind != LAND && holder == household && until >= year;
    }

    /** Of two that are alike the lesser number is better: whoever asks goes by numbers. */
    boolean isBetterThan(Right other) {
      return kind != other.kind ? kind < other.kind : since < other.since;
    }

    int detail(int what) {
      switch (what) {
        case 0: return kind;
        case 1: return holder;
        case 2: return bench;
        case 3: return from;
        case 4: return units;
        case 5: return since;
        case 6: return until;
        case 7: return knownIn;
        case 8: return heirs ? 1 : 0;
        case 9: return price;
        default: return NOT_SUCH;
      }
    }
  }

  /** All rights, and whose the plots are, year by year. */
  private static final class Ledger {
    final Right[] rights = new Right[MOST_RIGHTS];
    int size;
    int sales;
    private final int[] plotOwners = new int[PLOTS * (LAST_YEAR + 1)];
    private final int[] bestAt = new int[SPOTS];

    Ledger() {
      Arrays.fill(plotOwners, NONE);
    }

    boolean isPlot(int plot) {
      return plot >= 0 && plot < PLOTS;
    }

    int plotOwner(int plot, int year) {
      return isPlot(plot) && isYear(year) ? plotOwners[plot * (LAST_YEAR + 1) + year] : NONE;
    }

    void givePlot(int plot, int household, int year) {
      if (isPlot(plot) && isYear(year)) {
        int first = plot * (LAST_YEAR + 1);
        Arrays.fill(plotOwners, first + year, first + LAST_YEAR + 1, household);
      }
    }

    void passPlots(int household, int heir, int year) {
      for (int plot = 0; plot < PLOTS; plot++) {
        if (plotOwner(plot, year) == household) {
          givePlot(plot, heir, year);
        }
      }
    }

    int numbersLeft() {
      return MOST_RIGHTS - size;
    }

    int enter(Right told) {
      if (size >= MOST_RIGHTS) {
        return NO_MORE;
      }
      rights[size] = told;
      size++;
      return size - 1;
    }

    /** null, if there is none such. */
    Right find(int number) {
      return number >= 0 && number < size ? rights[number] : null;
    }

    /** NONE: there is no such right, or a plot that is nobody's in that year. */
    int holderOf(int number, int year) {
      Right which = find(number);
      if (which == null) {
        return NONE;
      }
      return which.kind == LAND ? plotOwner(which.holder, year) : which.holder;
    }

    /** The best right of those whose holder is in a set of households; NONE: there is none. */
    int bestFor(int bench, int unit, int year, int known, int among) {
      int best = NONE;
      for (int n = 0; n < size; n++) {
        Right mine = find(n);
        if (mine == null || !mine.isOn(bench, unit) || !mine.isFor(year, known)) {
          continue;
        }
        int holder = holderOf(n, year);
        if (holder == NONE || (among >> holder & 1) == 0) {
          continue;
        }
        Right other = find(best);
        if (other == null || mine.isBetterThan(other)) {
          best = n;
        }
      }
      return best;
    }

    /** To whom each spot belongs in a year, by what is known at its end: a right at a time, for speed. */
    void fillOwners(int year, int[] owner) {
      Arrays.fill(bestAt, NONE);
      for (int n = 0; n < size; n++) {
        Right mine = find(n);
        if (mine != null && mine.isFor(year, year) && holderOf(n, year) != NONE) {
          markBest(mine, n);
        }
      }
      for (int s = 0; s < bestAt.length && s < owner.length; s++) {
        owner[s] = holderOf(bestAt[s], year);
      }
    }

    private void markBest(Right mine, int number) {
      int first = mine.bench * MOST_UNITS + mine.from;
      for (int s = first; s < first + mine.units && s < bestAt.length; s++) {
        Right other = find(bestAt[s]);
        if (other == null || mine.isBetterThan(other)) {
          bestAt[s] = number;
        }
      }
    }

    int heldBy(int household, int year) {
      int held = 0;
      for (int n = 0; n < size; n++) {
        Right mine = find(n);
        if (mine != null && mine.isFor(year, year) && holderOf(n, year) == household) {
          held++;
        }
      }
      return held;
    }

    int heritableOf(int household, int year) {
      int passing = 0;
      for (int n = 0; n < size; n++) {
        Right mine = find(n);
        if (mine != null && mine.isStillHeldBy(household, year) && mine.heirs) {
          passing++;
        }
      }
      return passing;
    }

    void passRights(int household, int heir, int year) {
      int before = size;
      for (int n = 0; n < before; n++) {
        Right old = find(n);
        if (old != null && old.isStillHeldBy(household, year)) {
          int until = old.until;
          old.endAhead(year);
          if (old.heirs && heir != NONE) {
            enter(inherited(old, heir, until, year));
          }
        }
      }
    }

    private static Right inherited(Right old, int heir, int until, int year) {
      Right passed = new Right(old.kind, heir, old.bench, old.from, old.units);
      passed.setYears(old.since, Math.max(old.since, year), until, year);
      passed.heirs = true;
      passed.price = old.price;
      return passed;
    }
  }

  /** Who sits where in one year. */
  private static final class Seating {
    final int[] spot = new int[MOST_HOUSEHOLDS];
    final int[] width = new int[MOST_HOUSEHOLDS];
    final int[] worth = new int[MOST_HOUSEHOLDS];
    final boolean[] byRight = new boolean[MOST_HOUSEHOLDS];
    int sitting;

    Seating() {
      Arrays.fill(spot, NONE);
    }

    void clear() {
      Arrays.fill(spot, NONE);
      sitting = 0;
    }

    void put(int h, int at, int units, int value, boolean right) {
      spot[h] = at;
      width[h] = units;
      worth[h] = value;
      byRight[h] = right;
      sitting++;
    }

    boolean isSitting(int h) {
      return h >= 0 && h < spot.length && spot[h] != NONE;
    }

    boolean isSameRun(Seating other, int h) {
      return spot[h] == other.spot[h] && width[h] == other.width[h];
    }

    int unitsSatOn() {
      int units = 0;
      for (int h = 0; h < spot.length; h++) {
        units += isSitting(h) ? width[h] : 0;
      }
      return units;
    }
  }

  /** Finds runs among the spots that are open, and seats a whole parish. */
  private static final class Usher {
    private final Church church;
    private final Parish parish;
    /** How many open spots of a bench lie side by side from a spot on. */
    private final int[] reach = new int[SPOTS + 1];
    private final int[] order = new int[MOST_HOUSEHOLDS];
    private final int[] waiting = new int[MOST_HOUSEHOLDS];
    private int waiters;
    /** The greatest sum that those from the k-th waiter on can have from a spot on. */
    private final long[] best = new long[(MOST_HOUSEHOLDS + 1) * (SPOTS + 1)];

    Usher(Church church, Parish parish) {
      this.church = church;
      this.parish = parish;
    }

    /** To be called for all spots of the benches, the last one first. */
    void setOpen(int spot, boolean isOpen) {
      boolean isBenchEnd = spot % MOST_UNITS == MOST_UNITS - 1;
      reach[spot] = isOpen ? 1 + (isBenchEnd ? 0 : reach[spot + 1]) : 0;
    }

    /** The spot of the best run of open spots; NONE: there is none. */
    int bestRun(int width, int deaf, boolean galleries) {
      int found = NONE;
      int most = NONE;
      int end = church.spotsEnd();
      for (int s = 0; s < end; s++) {
        if (isRunOpen(s, width, galleries)) {
          int value = church.worthOf(s, width, deaf);
          if (value > most) {
            most = value;
            found = s;
          }
        }
      }
      return found;
    }

    void seatAll(Seating seating, int[] owner, int low) {
      seating.clear();
      waiters = 0;
      int n = parish.fillOrder(order);
      for (int i = 0; i < n; i++) {
        if (!seatByRight(seating, owner, order[i])) {
          waiting[waiters] = order[i];
          waiters++;
        }
      }
      openThoseOf(owner, NONE);
      for (int k = waiters - 1; k >= 0; k--) {
        fillBest(k, low);
      }
      seatByRank(seating, low);
    }

    private void openThoseOf(int[] owner, int h) {
      for (int s = church.spotsEnd() - 1; s >= 0; s--) {
        setOpen(s, owner[s] == h && church.isUnitSpot(s));
      }
    }

    private boolean isRunOpen(int spot, int width, boolean galleries) {
      return reach[spot] >= width && (galleries || !church.isGallery[spot / MOST_UNITS]);
    }

    private boolean seatByRight(Seating seating, int[] owner, int h) {
      Household who = parish.find(h);
      if (who == null) {
        return false;
      }
      openThoseOf(owner, h);
      int spot = bestRun(who.width, who.deaf, true);
      if (spot == NONE) {
        return false;
      }
      seating.put(h, spot, who.width, church.worthOf(spot, who.width, who.deaf), true);
      return true;
    }

    private void fillBest(int k, int low) {
      Household who = parish.find(waiting[k]);
      int mine = k * (SPOTS + 1);
      int next = mine + SPOTS + 1;
      int end = church.spotsEnd();
      if (k == waiters - 1) {
        Arrays.fill(best, next, next + end + 1, 0L);
      }
      best[mine + end] = 0;
      for (int s = end - 1; s >= 0; s--) {
        long without = Math.max(best[next + s], best[mine + s + 1]);
        best[mine + s] = Math.max(without, sumSeated(who, next, s, low));
      }
    }

    /** The sum if a waiter sits at a spot and the next ones do their best behind; NONE: it can't. */
    private long sumSeated(Household who, int next, int spot, int low) {
      if (who == null || !isRunOpen(spot, who.width, who.rank < low)) {
        return NONE;
      }
      long value = church.worthOf(spot, who.width, who.deaf);
      return value * (who.rank + 1) + best[next + spot + who.width];
    }

    private void seatByRank(Seating seating, int low) {
      int behind = 0;
      for (int k = 0; k < waiters; k++) {
        Household who = parish.find(waiting[k]);
        int spot = firstOfBest(k, who, behind, low);
        if (who != null && spot != NONE) {
          int value = church.worthOf(spot, who.width, who.deaf);
          seating.put(waiting[k], spot, who.width, value, false);
          behind = spot + who.width;
        }
      }
    }

    private int firstOfBest(int k, Household who, int behind, int low) {
      int mine = k * (SPOTS + 1);
      int next = mine + SPOTS + 1;
      int end = church.spotsEnd();
      for (int s = behind; s < end; s++) {
        if (sumSeated(who, next, s, low) == best[mine + behind]) {
          return s;
        }
      }
      return NONE;
    }
  }

  /** Lots, what is offered for them, and how the latest ones were knocked down. */
  private static final class Auction {
    int lots;
    final int[] bench = new int[MOST_LOTS];
    final int[] from = new int[MOST_LOTS];
    final int[] units = new int[MOST_LOTS];
    final int[] years = new int[MOST_LOTS];
    private final int[] offered = new int[MOST_LOTS * MOST_HOUSEHOLDS];
    /** The greatest sum of the households from one on, if a set of lots is gone. */
    private final int[] best = new int[(MOST_HOUSEHOLDS + 1) * LOT_SETS];
    /** The greatest sum of the households ahead of one, for lots of a set alone. */
    private final int[] ahead = new int[LOT_SETS];
    private final int[] winning = new int[MOST_HOUSEHOLDS];
    boolean wasHeld;
    final int[] lotOf = new int[MOST_HOUSEHOLDS];
    final int[] priceOf = new int[MOST_HOUSEHOLDS];
    int offeredInAll;

    int putUp(int b, int first, int n, int y) {
      if (lots >= MOST_LOTS) {
        return NO_MORE;
      }
      bench[lots] = b;
      from[lots] = first;
      units[lots] = n;
      years[lots] = y;
      for (int h = 0; h < MOST_HOUSEHOLDS; h++) {
        noteOffer(lots, h, 0);
      }
      lots++;
      return lots - 1;
    }

    boolean isLot(int lot) {
      return lot >= 0 && lot < lots;
    }

    void noteOffer(int lot, int h, int sum) {
      offered[lot * MOST_HOUSEHOLDS + h] = sum;
    }

    /** Who is gone offers nothing, whatever it offered ahead of that. */
    void dropOffersOf(int h) {
      for (int lot = 0; lot < lots; lot++) {
        noteOffer(lot, h, 0);
      }
    }

    /** How many win; what the latest knock told stays as it was, for this one may yet be refused. */
    int findWinners() {
      fillBest();
      int taken = 0;
      int winners = 0;
      for (int h = 0; h < MOST_HOUSEHOLDS; h++) {
        winning[h] = leastLot(h, taken);
        if (winning[h] != NONE) {
          taken |= 1 << winning[h];
          winners++;
        }
      }
      return winners;
    }

    void findPrices() {
      Arrays.fill(ahead, 0);
      offeredInAll = best[0];
      for (int h = 0; h < MOST_HOUSEHOLDS; h++) {
        int lot = winning[h];
        lotOf[h] = lot;
        priceOf[h] = lot == NONE ? 0 : bestWithout(h) - (offeredInAll - offered[lot * MOST_HOUSEHOLDS + h]);
        addAhead(h);
      }
      wasHeld = true;
    }

    long income() {
      long sum = 0;
      for (int h = 0; h < MOST_HOUSEHOLDS; h++) {
        sum += priceOf[h];
      }
      return sum;
    }

    void close() {
      lots = 0;
    }

    private void fillBest() {
      Arrays.fill(best, MOST_HOUSEHOLDS * LOT_SETS, best.length, 0);
      for (int h = MOST_HOUSEHOLDS - 1; h >= 0; h--) {
        for (int taken = 0; taken < (1 << lots); taken++) {
          int rest = best[(h + 1) * LOT_SETS + taken];
          best[h * LOT_SETS + taken] = Math.max(rest, bestWithLot(h, taken));
        }
      }
    }

    /** Those ahead of a household share a set of lots, those behind it all others: the best of all sets. */
    private int bestWithout(int h) {
      int most = 0;
      for (int set = 0; set < (1 << lots); set++) {
        most = Math.max(most, ahead[set] + best[(h + 1) * LOT_SETS + set]);
      }
      return most;
    }

    /** The greater sets first, as they look at the lesser ones as those were without this household. */
    private void addAhead(int h) {
      for (int set = (1 << lots) - 1; set > 0; set--) {
        for (int lot = 0; lot < lots; lot++) {
          int offer = offered[lot * MOST_HOUSEHOLDS + h];
          if (offer > 0 && (set >> lot & 1) != 0) {
            ahead[set] = Math.max(ahead[set], offer + ahead[set ^ 1 << lot]);
          }
        }
      }
    }

    private int bestWithLot(int h, int taken) {
      int most = NONE;
      for (int lot = 0; lot < lots; lot++) {
        most = Math.max(most, sumWithLot(h, lot, taken));
      }
      return most;
    }

    /** NONE, if the lot is gone or the household offers nothing for it. */
    private int sumWithLot(int h, int lot, int taken) {
      int offer = offered[lot * MOST_HOUSEHOLDS + h];
      if (offer <= 0 || (taken >> lot & 1) != 0) {
        return NONE;
      }
      return offer + best[(h + 1) * LOT_SETS + (taken | 1 << lot)];
    }

    private int leastLot(int h, int taken) {
      for (int lot = 0; lot < lots; lot++) {
        if (sumWithLot(h, lot, taken) == best[h * LOT_SETS + taken]) {
          return lot;
        }
      }
      return NONE;
    }
  }

  /** Households that would change runs in rings. */
  private static final class Rings {
    private final Church church;
    private final Parish parish;
    private final int[] looksAt = new int[MOST_HOUSEHOLDS];
    final int[] to = new int[MOST_HOUSEHOLDS];

    Rings(Church church, Parish parish) {
      this.church = church;
      this.parish = parish;
      Arrays.fill(to, NONE);
    }

    int turn(int set, Seating seating) {
      Arrays.fill(to, NONE);
      int left = 0;
      for (int h = 0; h < MOST_HOUSEHOLDS; h++) {
        if ((set >> h & 1) != 0 && parish.isStaying(h) && seating.isSitting(h)) {
          left |= 1 << h;
        }
      }
      int elsewhere = 0;
      // each round at least one ring goes, so that there are no more rounds than households
      for (int round = 0; round < MOST_HOUSEHOLDS && left != 0; round++) {
        lookRound(left, seating);
        int going = ringed(left);
        elsewhere += letGo(going);
        left &= ~going;
      }
      return elsewhere;
    }

    private void lookRound(int left, Seating seating) {
      for (int h = 0; h < MOST_HOUSEHOLDS; h++) {
        if ((left >> h & 1) != 0) {
          looksAt[h] = favourite(h, left, seating);
        }
      }
    }

    private int favourite(int h, int left, Seating seating) {
      Household who = parish.find(h);
      if (who == null) {
        return h;
      }
      int found = h;
      int most = worthOfRun(who, h, seating);
      for (int other = 0; other < MOST_HOUSEHOLDS; other++) {
        if ((left >> other & 1) != 0) {
          int value = worthOfRun(who, other, seating);
          if (value > most) {
            most = value;
            found = other;
          }
        }
      }
      return found;
    }

    /** NONE, if the other's run is too short. */
    private int worthOfRun(Household who, int other, Seating seating) {
      if (seating.width[other] < who.width) {
        return NONE;
      }
      return church.worthOf(seating.spot[other], who.width, who.deaf);
    }

    private int ringed(int left) {
      int going = 0;
      for (int h = 0; h < MOST_HOUSEHOLDS; h++) {
        if ((left >> h & 1) != 0 && isInRing(h)) {
          going |= 1 << h;
        }
      }
      return going;
    }

    private boolean isInRing(int h) {
      int at = looksAt[h];
      for (int step = 0; step < MOST_HOUSEHOLDS && at != h; step++) {
        at = looksAt[at];
      }
      return at == h;
    }

    private int letGo(int going) {
      int elsewhere = 0;
      for (int h = 0; h < MOST_HOUSEHOLDS; h++) {
        if ((going >> h & 1) != 0) {
          to[h] = looksAt[h];
          elsewhere += to[h] != h ? 1 : 0;
        }
      }
      return elsewhere;
    }
  }

  /** A Sunday: households and strangers who come one by one. */
  private static final class Sundays {
    private final Church church;
    private final Parish parish;
    private final Usher usher;
    /** Spots that belong to nobody and are on nobody's run: till the bell they alone are for all. */
    private final boolean[] isSpare = new boolean[SPOTS];
    private final boolean[] isTaken = new boolean[SPOTS];
    private Seating latest;
    private int low;
    int came;
    final int[] spotOf = new int[MOST_NUMBERS];

    Sundays(Church church, Parish parish, Usher usher) {
      this.church = church;
      this.parish = parish;
      this.usher = usher;
    }

    boolean canCome(Rows rows, int place) {
      int seen = 0;
      for (int i = 0; i < rows.lengthOf(place); i++) {
        long number = rows.numberAt(place, i);
        if (number < -MOST_WIDTH || number >= MOST_HOUSEHOLDS) {
          return false;
        }
        if (number >= 0) {
          int h = (int) number;
          if (!parish.isStaying(h) || (seen >> h & 1) != 0) {
            return false;
          }
          seen |= 1 << h;
        }
      }
      return true;
    }

    /** The latest year's seating is null, if no year has gone. */
    void open(int[] owner, Seating latestSeating, int lowRank) {
      latest = latestSeating;
      low = lowRank;
      for (int s = 0; s < SPOTS; s++) {
        isTaken[s] = false;
        isSpare[s] = owner[s] == NONE;
      }
      for (int h = 0; h < MOST_HOUSEHOLDS; h++) {
        if (latest != null && latest.isSitting(h) && parish.isStaying(h)) {
          keepRun(latest.spot[h], latest.width[h]);
        }
      }
    }

    int hold(Rows rows, int place, int bell) {
      int standing = 0;
      came = rows.lengthOf(place);
      for (int i = 0; i < came && i < spotOf.length; i++) {
        int number = (int) rows.numberAt(place, i);
        spotOf[i] = number < 0 ? seatStranger(-number, i < bell) : seatHousehold(number, i < bell);
        standing += spotOf[i] == NONE ? 1 : 0;
      }
      return standing;
    }

    private void keepRun(int spot, int width) {
      for (int s = spot; s < spot + width && s < SPOTS; s++) {
        isSpare[s] = false;
      }
    }

    private int seatStranger(int width, boolean aheadOfBell) {
      openSpots(aheadOfBell);
      return take(usher.bestRun(width, 0, 0 < low), width);
    }

    private int seatHousehold(int h, boolean aheadOfBell) {
      Household who = parish.find(h);
      if (who == null) {
        return NONE;
      }
      if (aheadOfBell && isOwnRunFree(h, who.width)) {
        return take(latest.spot[h], who.width);
      }
      openSpots(aheadOfBell);
      return take(usher.bestRun(who.width, who.deaf, who.rank < low), who.width);
    }

    private boolean isOwnRunFree(int h, int width) {
      if (latest == null || !latest.isSitting(h) || latest.width[h] != width) {
        return false;
      }
      int spot = latest.spot[h];
      for (int s = spot; s < spot + width && s < SPOTS; s++) {
        if (isTaken[s]) {
          return false;
        }
      }
      return true;
    }

    private void openSpots(boolean aheadOfBell) {
      for (int s = church.spotsEnd() - 1; s >= 0; s--) {
        boolean isFor = !aheadOfBell || isSpare[s];
        usher.setOpen(s, isFor && !isTaken[s] && church.isUnitSpot(s));
      }
    }

    private int take(int spot, int width) {
      if (spot != NONE) {
        for (int s = spot; s < spot + width && s < SPOTS; s++) {
          isTaken[s] = true;
        }
      }
      return spot;
    }
  }

  /** The rows of the places, each in its own stretch of one array. */
  private static final class Rows {
    private final long[] numbers = new long[PLACES * MOST_NUMBERS];
    private final int[] lengths = new int[PLACES];
    private final int[] widths = new int[PLACES];

    Rows() {
      Arrays.fill(lengths, NONE);
    }

    boolean isPlace(int place) {
      return place >= 0 && place < PLACES;
    }

    boolean isFilled(int place) {
      return lengths[place] != NONE;
    }

    int filled() {
      int full = 0;
      for (int place = 0; place < PLACES; place++) {
        full += isFilled(place) ? 1 : 0;
      }
      return full;
    }

    int lengthOf(int place) {
      return Math.max(0, lengths[place]);
    }

    /** 0, if there is no such number. */
    long numberAt(int place, int i) {
      return i >= 0 && i < lengthOf(place) ? numbers[place * MOST_NUMBERS + i] : 0;
    }

    void lay(int place, int width, int n) {
      int first = place * MOST_NUMBERS;
      Arrays.fill(numbers, first, first + MOST_NUMBERS, 0L);
      lengths[place] = n;
      widths[place] = width;
    }

    void clear(int place) {
      lengths[place] = NONE;
    }

    int put(int place, int i, long v) {
      if (i < 0 || i >= lengths[place]) {
        return BEYOND_ROW;
      }
      numbers[place * MOST_NUMBERS + i] = cut(v, widths[place]);
      return 0;
    }

    int copy(int place, int i, int to, int k, int n) {
      if (widths[place] != widths[to]) {
        return OTHER_WIDTH;
      }
      if (i < 0 || k < 0 || n < 0 || n > lengths[place] - i || n > lengths[to] - k) {
        return BEYOND_ROW;
      }
      System.arraycopy(numbers, place * MOST_NUMBERS + i, numbers, to * MOST_NUMBERS + k, n);
      return 0;
    }

    private static long cut(long v, int width) {
      switch (width) {
        case 0: return (byte) v;
        case 1: return (short) v;
        case 2: return (int) v;
        default: return v;
      }
    }
  }
}

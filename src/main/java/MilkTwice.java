/**
 * A shopping list that two have in their pockets, and the cupboard it is about.
 *
 * <p>The numbered promises stand in ../shared/DOC.md; words in capitals are that document's. The
 * class keeps to ../shared/LANGUAGE.md: nothing in it throws, and every row is made in a
 * constructor and used again.
 */
public final class MilkTwice {
  private static final int NOBODY = -1;
  private static final int OTHER = -2;
  private static final int STATE = -3;
  private static final int BELOW = -4;
  private static final int ROOM = -6;
  private static final int NONE = -9;
  private static final long LONG_REFUSAL = 4000000000000000000L;

  private static final int MOST_KINDS = 6;
  private static final int MOST_THINGS = 7;
  private static final int ALL_BITS = 127;
  private static final int MOST_DIGIT = 9;
  private static final int MOST_STOCK = 99;
  private static final int MOST_NOW = 999;
  private static final int MOST_DAYS = 999;
  private static final int MOST_RULE = 3;
  private static final int MOST_BACK = 8;
  private static final int MOST_LETTERS = 96;
  private static final int MOST_ROW = 12;
  private static final int MOST_GONE_FOR = 6;
  private static final int MOST_PENCE = 999;
  private static final int NEAR = 2;
  private static final int WEEK = 7;
  private static final int MONTH = 30;
  private static final int FAR = 60;
  private static final int MOST_PACKS = 20;
  private static final int NOT_BY_PACKS = 99;
  private static final int MOST_MINUTES = 60;

  // How a LINE is marked: by the letter that tells it in a HOUSE.
  private static final int WRITTEN = 'w';
  private static final int TICKED = 'k';
  private static final int STRUCK = 'x';

  private final House house;
  private final House trial;
  private final House picture;
  private boolean pictured;
  private final History history;
  private final Mind mind;
  private final Letters letters;
  private final int[] row = new int[MOST_ROW];
  private int rowLength;
  private final int[] refusals = new int[7];

  public MilkTwice() {
    Kind[] kinds = {new Kind(), new Sour(), new Keeps(), new Dear(), new Fresh(), new Spice()};
    house = new House(kinds);
    trial = new House(kinds);
    picture = new House(kinds);
    history = new History(kinds);
    mind = new Mind(house, kinds);
    letters = new Letters();
  }

  // ---- Refusals and bounds ----

  private int refuse(int number) {
    int place = -number;
    if (place > 0 && place < refusals.length) {
      refusals[place]++;
    }
    return number;
  }

  private long refuseLong(int number) {
    return LONG_REFUSAL - refuse(number);
  }

  private static int outside(int v, int least, int most) {
    return v < least ? BELOW : v > most ? ROOM : 0;
  }

  /** Of two numbers: that one is below the least is told ahead of the other being above the most. */
  private static int eitherOutside(int a, int b, int least, int most) {
    int lower = outside(Math.min(a, b), least, most);
    return lower == BELOW ? BELOW : outside(Math.max(a, b), least, most);
  }

  private int refusalOf(int thing, int v, int least, int most) {
    return house.cupboard.has(thing) ? outside(v, least, most) : NOBODY;
  }

  /** The refusal, or the next one, if what that one looks at does not fit. */
  private static int firstOf(int refusal, boolean fits, int next) {
    return refusal != 0 || fits ? refusal : next;
  }

  private static boolean isOneOf(int what, int most) {
    return what >= 0 && what <= most;
  }

  // ---- Houses told in letters ----

  public int feed(int letter) {
    int refusal = firstOf(outside(letter, 0, 255), !letters.isFull(), ROOM);
    return refusal != 0 ? refuse(refusal) : letters.add(letter);
  }

  public int house() {
    int answer = letters.tell(house, trial);
    letters.wipe();
    if (answer >= 0) {
      house.become(trial);
      history.forget();
    }
    return answer;
  }

  // ---- Things ----

  public int thingOf(int thing, int what) {
    if (!house.cupboard.has(thing)) {
      return refuse(NOBODY);
    }
    return isOneOf(what, 8) ? house.cupboard.tellOf(thing, what) : refuse(OTHER);
  }

  public int thing(int kind, int figure, int use) {
    int answer = house.cupboard.add(kind, figure, use);
    if (answer < 0) {
      return refuse(answer);
    }
    history.forget();
    return answer;
  }

  public int stock(int thing, int v) {
    int refusal = refusalOf(thing, v, 0, MOST_STOCK);
    if (refusal != 0) {
      return refuse(refusal);
    }
    history.keep(house);
    int before = house.cupboard.stockOf(thing);
    house.cupboard.putStock(thing, v);
    return before;
  }

  // ---- The two lists ----

  public int lineOf(int list, int thing, int what) {
    if (!house.isLine(list, thing)) {
      return refuse(NOBODY);
    }
    if (!isOneOf(what, 1)) {
      return refuse(OTHER);
    }
    return what == 0 ? house.wantedBy(list) >> thing & 1 : house.clockOf(list, thing);
  }

  public int writes(int list, int thing) {
    int refusal = markOrRefuse(list, thing, WRITTEN);
    return refusal != 0 ? refusal : house.now;
  }

  public int ticks(int list, int thing) {
    int refusal = markOrRefuse(list, thing, TICKED);
    return refusal != 0 ? refusal : house.cupboard.pence;
  }

  public int strikes(int list, int thing) {
    int refusal = markOrRefuse(list, thing, STRUCK);
    return refusal != 0 ? refusal : house.now;
  }

  private int markOrRefuse(int list, int thing, int how) {
    int refusal = house.refusalToMark(list, thing);
    if (refusal != 0) {
      return refuse(refusal);
    }
    history.keep(house);
    return house.markLine(list, thing, how);
  }

  public int rule(int v) {
    if (!isOneOf(v, MOST_RULE)) {
      return refuse(OTHER);
    }
    history.forget();
    int before = house.rule;
    house.rule = v;
    return before;
  }

  public int join() {
    history.keep(house);
    return house.joinLists();
  }

  public int day() {
    if (house.days >= MOST_DAYS) {
      return refuse(ROOM);
    }
    history.keep(house);
    return house.liveDays(1);
  }

  public int back() {
    return history.held == 0 ? refuse(STATE) : history.takeBack(house);
  }

  // ---- What the lists say, and what a joining would do ----

  public int apart() {
    return house.wantedBy(0) ^ house.wantedBy(1);
  }

  public int joined(int rule, int what) {
    if (!isOneOf(rule, MOST_RULE) || !isOneOf(what, 2)) {
      return refuse(OTHER);
    }
    switch (what) {
      case 0:
        return house.wantedAfter(rule);
      case 1:
        return house.lostBy(rule);
      default:
        return house.broughtBackBy(rule);
    }
  }

  public int bestRule(int what) {
    if (!isOneOf(what, 1)) {
      return refuse(OTHER);
    }
    int best = 1;
    for (int rule = 2; rule <= MOST_RULE; rule++) {
      if (house.harmOfRule(rule) < house.harmOfRule(best)) {
        best = rule;
      }
    }
    return what == 0 ? best : house.harmOfRule(best);
  }

  public int latest() {
    return house.latestLine();
  }

  public int twice() {
    return house.wantedBy(0) & house.wantedBy(1);
  }

  public int paper(int set) {
    int refusal = outside(set, 0, ALL_BITS);
    if (refusal != 0) {
      return refuse(refusal);
    }
    return set & house.cupboard.bitsOfAll() & ~(house.wantedBy(0) | house.wantedBy(1));
  }

  public int skew(int v) {
    int refusal = outside(v, -9, 9);
    return refusal != 0 ? refuse(refusal) : house.laterWants(0) ^ house.laterWants(v);
  }

  public int close(int v) {
    int refusal = outside(v, 0, 9);
    return refusal != 0 ? refuse(refusal) : house.closeTogether(v) & ~house.neverMarked();
  }

  // ---- The cupboard, some days on ----

  public int stockIn(int thing, int n) {
    int refusal = refusalOf(thing, n, 0, FAR);
    return refusal != 0 ? refuse(refusal) : mind.stockBehind(thing, n);
  }

  public int lacking(int n, int what) {
    int refusal = firstOf(outside(n, 0, FAR), isOneOf(what, 1), OTHER);
    if (refusal != 0) {
      return refuse(refusal);
    }
    return what == 0 ? mind.lackedIn(n) : mind.spoiltIn(n);
  }

  public int runsOut(int thing) {
    return house.cupboard.has(thing) ? mind.firstDayWithout(thing) : refuse(NOBODY);
  }

  public int firstOut() {
    return mind.firstThingOut();
  }

  public int buyFor(int thing, int n) {
    boolean all = thing == -1;
    int refusal = all ? outside(n, 1, MONTH) : refusalOf(thing, n, 1, MONTH);
    if (refusal != 0) {
      return refuse(refusal);
    }
    if (!all) {
      return mind.packsFor(thing, n);
    }
    mind.noteCosts(n);
    return mind.penceForAll();
  }

  public int order(int v, int what) {
    int refusal = firstOf(outside(v, 0, MOST_PENCE), isOneOf(what, 1), OTHER);
    if (refusal != 0) {
      return refuse(refusal);
    }
    int set = mind.bestSet(v);
    return what == 0 ? set : mind.lackedBySet(set);
  }

  public int lasts(int k) {
    int refusal = outside(k, 1, MOST_THINGS);
    return refusal != 0 ? refuse(refusal) : mind.firstDayWithoutSome(k);
  }

  public int needs(int thing, int n) {
    int refusal = refusalOf(thing, n, 1, MONTH);
    return refusal != 0 ? refuse(refusal) : mind.leastStockFor(thing, n);
  }

  public int noWaste(int thing, int n) {
    int refusal = refusalOf(thing, n, 1, MONTH);
    return refusal != 0 ? refuse(refusal) : mind.mostPacksUnspoilt(thing, n);
  }

  public int cheapest(int k, int n) {
    if (k < 0 || n < 1) {
      return refuse(BELOW);
    }
    if (k > MOST_THINGS || n > MONTH) {
      return refuse(ROOM);
    }
    mind.noteCosts(n);
    return mind.fewestPence(k);
  }

  public int interval(int p) {
    int refusal = outside(p, 1, 9);
    return refusal != 0 ? refuse(refusal) : mind.longestInterval(p);
  }

  public int turns(int n, int way) {
    int refusal = firstOf(outside(n, 1, FAR), isOneOf(way, 1), OTHER);
    return refusal != 0 ? refuse(refusal) : mind.costOfTurns(n, way);
  }

  public int month() {
    return mind.penceOfMonth();
  }

  public int swap() {
    return mind.bestSwap();
  }

  public int lots(int n, int z, int what) {
    int refusal = firstOf(outside(n, 1, 20), isOneOf(what, 1), OTHER);
    return refusal != 0 ? refuse(refusal) : mind.weeksByLot(n, z, what);
  }

  public int worth() {
    return house.cupboard.worthOfAll();
  }

  public int weekly() {
    return house.cupboard.penceOfWeek();
  }

  public int alike(int what) {
    if (!isOneOf(what, 1)) {
      return refuse(OTHER);
    }
    return what == 0 ? house.cupboard.alikeTwos() : house.cupboard.alikeLinks();
  }

  // ---- Who buys, without having heard ----

  public int unheard(int thing, int a, int b, int way) {
    int refusal = house.cupboard.has(thing) ? eitherOutside(a, b, 0, 10) : NOBODY;
    refusal = firstOf(refusal, isOneOf(way, 4), OTHER);
    if (refusal != 0) {
      return refuse(refusal);
    }
    if (way < 4) {
      return meanHarm(thing, a, b, way);
    }
    int best = 0;
    for (int other = 1; other < 4; other++) {
      if (meanHarm(thing, a, b, other) < meanHarm(thing, a, b, best)) {
        best = other;
      }
    }
    return best;
  }

  /** 100 times the HARM in the mean, so that tenths times tenths are whole numbers. */
  private int meanHarm(int thing, int a, int b, int way) {
    int hers = way == 1 || way == 3 ? a : 0;
    int his = way == 2 || way == 3 ? b : 0;
    return (10 - hers) * (10 - his) * house.cupboard.harmOf(thing, 0)
        + hers * his * house.cupboard.harmOf(thing, 2);
  }

  public int game(int thing) {
    if (!house.cupboard.has(thing)) {
      return refuse(NOBODY);
    }
    int pairs = 0;
    for (int pair = 0; pair < 4; pair++) {
      int harm = harmOfPair(thing, pair);
      if (harm <= harmOfPair(thing, pair ^ 1) && harm <= harmOfPair(thing, pair ^ 2)) {
        pairs |= 1 << pair;
      }
    }
    return pairs;
  }

  private int harmOfPair(int thing, int pair) {
    return house.cupboard.harmOf(thing, Integer.bitCount(pair));
  }

  public int all(int a, int b, int what) {
    int refusal = firstOf(eitherOutside(a, b, 0, 10), isOneOf(what, 1), OTHER);
    if (refusal != 0) {
      return refuse(refusal);
    }
    int toHim = 0;
    int harm = 0;
    for (int thing = 0; thing < house.cupboard.things; thing++) {
      // The THINGS' HARMS only add up, so the best of each makes the best of all.
      int byHer = meanHarm(thing, a, b, 1);
      int byHim = meanHarm(thing, a, b, 2);
      toHim |= byHim < byHer ? 1 << thing : 0;
      harm += Math.min(byHer, byHim);
    }
    return what == 0 ? toHim : harm;
  }

  // ---- How likely, and how long ----

  public long flour(int s, int n, int u, int part) {
    if (s < 0 || n < 0 || u < 0) {
      return refuseLong(BELOW);
    }
    if (s > 9 || n > 12 || u > 10) {
      return refuseLong(ROOM);
    }
    if (!isOneOf(part, 1)) {
      return refuseLong(OTHER);
    }
    long above = 0;
    long ways = 1;
    for (int used = 0; used < s && used <= n; used++) {
      above += ways * power(u, used) * power(10 - u, n - used);
      ways = ways * (n - used) / (used + 1);
    }
    return partOf(above, power(10, n), part);
  }

  public long sure(int f, int seen, int part) {
    int refusal = firstOf(outside(f, 2, 99), isOneOf(seen, 1) && isOneOf(part, 1), OTHER);
    if (refusal != 0) {
      return refuseLong(refusal);
    }
    long bought = (f - 1L) * (seen == 1 ? 9 : 1);
    long finger = seen == 1 ? 1 : 9;
    return partOf(bought, bought + finger, part);
  }

  private static long power(int base, int times) {
    long product = 1;
    for (int i = 0; i < times; i++) {
      product *= base;
    }
    return product;
  }

  private static long partOf(long above, long below, int part) {
    long divisor = greatestDivisor(above, below);
    long whole = part == 0 ? above : below;
    return divisor > 0 ? whole / divisor : whole;
  }

  private static long greatestDivisor(long a, long b) {
    long larger = a;
    long smaller = b;
    for (int step = 0; step < 1000 && smaller != 0; step++) {
      long rest = larger % smaller;
      larger = smaller;
      smaller = rest;
    }
    return larger;
  }

  public int bars(int t, int c, int h) {
    if (t < 2 || c < 1 || h < 0) {
      return refuse(BELOW);
    }
    if (t > 20 || c > 9 || h > 99) {
      return refuse(ROOM);
    }
    return h / t > c ? MOST_MINUTES : 0;
  }

  // ---- The row ----

  public int row(int v) {
    int refusal = firstOf(outside(v, 0, 99), rowLength < row.length, ROOM);
    if (refusal != 0) {
      return refuse(refusal);
    }
    row[rowLength] = v;
    rowLength++;
    return rowLength;
  }

  public int clear() {
    int before = rowLength;
    rowLength = 0;
    return before;
  }

  public int judge(int thing) {
    if (!house.cupboard.has(thing)) {
      return refuse(NOBODY);
    }
    int first = NONE;
    for (int days = 0; days < rowLength && first == NONE; days++) {
      if (row[days] != mind.stockBehind(thing, days)) {
        first = days;
      }
    }
    rowLength = 0;
    return first;
  }

  public int biscuits(int what) {
    if (!isOneOf(what, 1)) {
      return refuse(OTHER);
    }
    for (int i = 0; i < rowLength; i++) {
      if (!house.cupboard.has(row[i])) {
        return refuse(STATE);
      }
    }
    int unlike = 0;
    int most = 0;
    int favourite = NONE;
    for (int thing = 0; thing < MOST_THINGS; thing++) {
      int told = timesInRow(thing);
      unlike += told > 0 ? 1 : 0;
      if (told > most) {
        most = told;
        favourite = thing;
      }
    }
    return what == 0 ? unlike : favourite;
  }

  private int timesInRow(int v) {
    int times = 0;
    for (int i = 0; i < rowLength; i++) {
      times += row[i] == v ? 1 : 0;
    }
    return times;
  }

  public int fridge(int v, int what) {
    int refusal = firstOf(outside(v, 0, 99), isOneOf(what, 1), OTHER);
    refusal = firstOf(refusal, isRowOfLines(), STATE);
    if (refusal != 0) {
      return refuse(refusal);
    }
    int ways = 0;
    int least = NONE;
    int gaps = Math.max(0, rowLength - 1);
    for (int heard = (1 << gaps) - 1; heard >= 0; heard--) {
      if (boughtIfHeard(heard) == v) {
        ways++;
        least = heard;
      }
    }
    return what == 0 ? ways : least;
  }

  private boolean isRowOfLines() {
    boolean fits = rowLength <= MOST_GONE_FOR;
    for (int i = 0; i < rowLength; i++) {
      fits = fits && house.isLine(row[i] / 10, row[i] % 10);
    }
    return fits;
  }

  private int boughtIfHeard(int heard) {
    int hers = ALL_BITS;
    int his = ALL_BITS;
    int bought = 0;
    for (int i = 0; i < rowLength; i++) {
      if (i > 0 && (heard >> (i - 1) & 1) == 1) {
        hers &= his;
        his = hers;
      }
      int bit = 1 << row[i] % 10;
      if (row[i] < 10) {
        bought += (hers & bit) != 0 ? 1 : 0;
        hers &= ~bit;
      } else {
        bought += (his & bit) != 0 ? 1 : 0;
        his &= ~bit;
      }
    }
    return bought;
  }

  // ---- The image, and counts ----

  public int image() {
    picture.become(house);
    pictured = true;
    return house.now;
  }

  public int restore() {
    if (!pictured) {
      return refuse(STATE);
    }
    house.become(picture);
    history.forget();
    return house.now;
  }

  public int count(int what) {
    if (what >= 11 && what <= 16) {
      return refusals[what - 10];
    }
    switch (what) {
      case 0:
        return house.cupboard.things;
      case 1:
        return house.now;
      case 2:
        return house.days;
      case 3:
        return house.rule;
      case 4:
        return house.cupboard.pence;
      case 5:
        return house.cupboard.lacked;
      case 6:
        return house.cupboard.spoilt;
      case 7:
        return house.cupboard.stockOfAll();
      case 8:
        return Integer.bitCount(house.wantedBy(0)) + Integer.bitCount(house.wantedBy(1));
      case 9:
        return letters.length;
      case 10:
        return rowLength;
      case 17:
        return history.held;
      default:
        return NONE;
    }
  }

  // ---- The kinds ----

  /** KIND 0, a THING. Each KIND under it says only what it does otherwise. */
  private static class Kind {
    int priceAt(int figure) {
      return figure + 2;
    }

    int packSize() {
      return 1;
    }

    int lostOf(int stock, int figure) {
      return 0;
    }

    int harmOfTwo(int price) {
      return price;
    }
  }

  private static class Sour extends Kind {
    int priceAt(int figure) {
      return super.priceAt(figure) / 2;
    }

    int packSize() {
      return 2;
    }

    int lostOf(int stock, int figure) {
      return stock > figure ? (stock - figure) / 2 : 0;
    }

    int harmOfTwo(int price) {
      return 2 * super.harmOfTwo(price);
    }
  }

  private static class Keeps extends Kind {
    int packSize() {
      return 3;
    }

    int harmOfTwo(int price) {
      return 0;
    }
  }

  private static final class Dear extends Keeps {
    int priceAt(int figure) {
      return 5 * super.priceAt(figure);
    }

    int packSize() {
      return 1;
    }

    /** Half of a THING's, not of a KEEPS', under which it stands. */
    int harmOfTwo(int price) {
      return price / 2;
    }
  }

  private static final class Fresh extends Sour {
    int priceAt(int figure) {
      return super.priceAt(figure) + 3;
    }

    int lostOf(int stock, int figure) {
      return stock > figure ? stock - figure : 0;
    }
  }

  private static final class Spice extends Keeps {
    int priceAt(int figure) {
      return super.priceAt(figure) - 1;
    }

    int packSize() {
      return 2 * super.packSize();
    }

    int harmOfTwo(int price) {
      return 1;
    }
  }

  // ---- The cupboard ----

  /** The THINGS with their STOCK, and what was paid, lacked and spoilt. */
  private static final class Cupboard {
    private final Kind[] kinds;
    private final int[] kind = new int[MOST_THINGS];
    private final int[] figure = new int[MOST_THINGS];
    private final int[] use = new int[MOST_THINGS];
    private final int[] price = new int[MOST_THINGS];
    private final int[] pack = new int[MOST_THINGS];
    private final int[] stock = new int[MOST_THINGS];
    private final int[] group = new int[MOST_THINGS];
    private int things;
    private int pence;
    private int lacked;
    private int spoilt;

    Cupboard(Kind[] kinds) {
      this.kinds = kinds;
    }

    void become(Cupboard other) {
      System.arraycopy(other.kind, 0, kind, 0, MOST_THINGS);
      System.arraycopy(other.figure, 0, figure, 0, MOST_THINGS);
      System.arraycopy(other.use, 0, use, 0, MOST_THINGS);
      System.arraycopy(other.price, 0, price, 0, MOST_THINGS);
      System.arraycopy(other.pack, 0, pack, 0, MOST_THINGS);
      System.arraycopy(other.stock, 0, stock, 0, MOST_THINGS);
      things = other.things;
      pence = other.pence;
      lacked = other.lacked;
      spoilt = other.spoilt;
    }

    void forgetTallies() {
      pence = 0;
      lacked = 0;
      spoilt = 0;
    }

    boolean has(int thing) {
      return thing >= 0 && thing < things;
    }

    int bitsOfAll() {
      return (1 << things) - 1;
    }

    private int refusalToAdd(int newKind, int newFigure, int newUse) {
      if (!isOneOf(newKind, MOST_KINDS - 1)) {
        return OTHER;
      }
      int refusal = eitherOutside(newFigure, newUse, 0, MOST_DIGIT);
      return refusal == 0 && things >= MOST_THINGS ? ROOM : refusal;
    }

    /** The number of the THING that there is more; else the refusal. */
    int add(int newKind, int newFigure, int newUse) {
      int refusal = refusalToAdd(newKind, newFigure, newUse);
      if (refusal != 0) {
        return refusal;
      }
      int thing = things;
      kind[thing] = newKind;
      figure[thing] = newFigure;
      use[thing] = newUse;
      price[thing] = kinds[newKind].priceAt(newFigure);
      pack[thing] = kinds[newKind].packSize();
      stock[thing] = 0;
      things++;
      return thing;
    }

    /** KIND 0 stands in for a THING that there is not, so that the answer is never null. */
    private Kind kindOf(int thing) {
      return kinds[has(thing) ? kind[thing] : 0];
    }

    private int figureOf(int thing) {
      return has(thing) ? figure[thing] : 0;
    }

    int useOf(int thing) {
      return has(thing) ? use[thing] : 0;
    }

    int stockOf(int thing) {
      return has(thing) ? stock[thing] : 0;
    }

    void putStock(int thing, int v) {
      if (has(thing)) {
        stock[thing] = Math.max(0, Math.min(MOST_STOCK, v));
      }
    }

    int priceOf(int thing) {
      return has(thing) ? price[thing] : 0;
    }

    int packOf(int thing) {
      return has(thing) ? pack[thing] : 0;
    }

    private int lostOf(int thing) {
      return kindOf(thing).lostOf(stockOf(thing), figureOf(thing));
    }

    int harmOf(int thing, int bought) {
      switch (bought) {
        case 0:
          return 3 * useOf(thing);
        case 2:
          return kindOf(thing).harmOfTwo(priceOf(thing));
        default:
          return 0;
      }
    }

    int tellOf(int thing, int what) {
      switch (what) {
        case 0:
          return has(thing) ? kind[thing] : 0;
        case 1:
          return figureOf(thing);
        case 2:
          return useOf(thing);
        case 3:
          return stockOf(thing);
        case 4:
          return priceOf(thing);
        case 5:
          return packOf(thing);
        case 6:
          return lostOf(thing);
        case 7:
          return harmOf(thing, 0);
        default:
          return harmOf(thing, 2);
      }
    }

    void buy(int thing, int packs) {
      putStock(thing, stockOf(thing) + packs * packOf(thing));
      pence += packs * priceOf(thing);
    }

    /** A DAY of one THING alone: what lacks of it. */
    int liveDayOf(int thing) {
      if (!has(thing)) {
        return 0;
      }
      int lacks = Math.max(0, use[thing] - stock[thing]);
      int left = Math.max(0, stock[thing] - use[thing]);
      int lost = kinds[kind[thing]].lostOf(left, figure[thing]);
      stock[thing] = left - lost;
      lacked += lacks;
      spoilt += lost;
      return lacks;
    }

    /** A DAY of all THINGS: what lacks, all together. */
    int liveDay() {
      int lacks = 0;
      for (int thing = 0; thing < things; thing++) {
        lacks += liveDayOf(thing);
      }
      return lacks;
    }

    void changeUses(int one, int other) {
      if (has(one) && has(other)) {
        int kept = use[one];
        use[one] = use[other];
        use[other] = kept;
      }
    }

    int stockOfAll() {
      int together = 0;
      for (int thing = 0; thing < things; thing++) {
        together += stock[thing];
      }
      return together;
    }

    int worthOfAll() {
      int together = 0;
      for (int thing = 0; thing < things; thing++) {
        together += byPack(stock[thing] * price[thing], thing);
      }
      return together;
    }

    int penceOfWeek() {
      int together = 0;
      for (int thing = 0; thing < things; thing++) {
        int packsUp = byPack(use[thing] * WEEK + pack[thing] - 1, thing);
        together += packsUp * price[thing];
      }
      return together;
    }

    private int byPack(int amount, int thing) {
      int size = packOf(thing);
      return size > 0 ? amount / size : 0;
    }

    private boolean areAlike(int one, int other) {
      return kind[one] == kind[other] && Math.abs(figure[one] - figure[other]) <= 1;
    }

    int alikeTwos() {
      int twos = 0;
      for (int one = 0; one < things; one++) {
        for (int other = one + 1; other < things; other++) {
          twos += areAlike(one, other) ? 1 : 0;
        }
      }
      return twos;
    }

    /** Only a two that hangs together what did not yet is needed. */
    int alikeLinks() {
      for (int thing = 0; thing < things; thing++) {
        group[thing] = thing;
      }
      int links = 0;
      for (int one = 0; one < things; one++) {
        for (int other = one + 1; other < things; other++) {
          if (areAlike(one, other) && group[one] != group[other]) {
            hangTogether(group[one], group[other]);
            links++;
          }
        }
      }
      return links;
    }

    private void hangTogether(int oneGroup, int otherGroup) {
      for (int thing = 0; thing < things; thing++) {
        if (group[thing] == otherGroup) {
          group[thing] = oneGroup;
        }
      }
    }
  }

  // ---- The house: the cupboard and both lists ----

  /** All that there is of I, but letters, the ROW and REFUSALS: what an IMAGE holds. */
  private static final class House {
    private final Cupboard cupboard;
    private final int[] wanted = new int[2];
    private final int[] clock = new int[2 * MOST_THINGS];
    private int now;
    private int days;
    private int rule;

    House(Kind[] kinds) {
      cupboard = new Cupboard(kinds);
    }

    void become(House other) {
      cupboard.become(other.cupboard);
      System.arraycopy(other.wanted, 0, wanted, 0, 2);
      System.arraycopy(other.clock, 0, clock, 0, 2 * MOST_THINGS);
      now = other.now;
      days = other.days;
      rule = other.rule;
    }

    boolean isLine(int list, int thing) {
      return isOneOf(list, 1) && cupboard.has(thing);
    }

    /** The THINGS (bits) that a LIST wants. */
    int wantedBy(int list) {
      return isOneOf(list, 1) ? wanted[list] : 0;
    }

    int clockOf(int list, int thing) {
      return isLine(list, thing) ? clock[list * MOST_THINGS + thing] : 0;
    }

    int refusalToMark(int list, int thing) {
      if (!isLine(list, thing)) {
        return NOBODY;
      }
      return now >= MOST_NOW ? ROOM : 0;
    }

    /** WRITTEN, TICKED or STRUCK; else the refusal. */
    int markLine(int list, int thing, int how) {
      int refusal = refusalToMark(list, thing);
      if (refusal != 0) {
        return refusal;
      }
      now++;
      clock[list * MOST_THINGS + thing] = now;
      int bit = 1 << thing;
      wanted[list] = how == WRITTEN ? wanted[list] | bit : wanted[list] & ~bit;
      if (how == TICKED) {
        cupboard.buy(thing, 1);
      }
      return 0;
    }

    int liveDays(int n) {
      int lacks = 0;
      for (int i = 0; i < n; i++) {
        days++;
        lacks += cupboard.liveDay();
      }
      return lacks;
    }

    /** What the LINE with the later CLOCK wants (bits), LIST 1's CLOCKS being ahead by so much. */
    int laterWants(int ahead) {
      int bits = 0;
      for (int thing = 0; thing < cupboard.things; thing++) {
        int list = clock[MOST_THINGS + thing] + ahead > clock[thing] ? 1 : 0;
        bits |= wanted[list] & 1 << thing;
      }
      return bits;
    }

    int closeTogether(int most) {
      int bits = 0;
      for (int thing = 0; thing < cupboard.things; thing++) {
        if (Math.abs(clock[thing] - clock[MOST_THINGS + thing]) <= most) {
          bits |= 1 << thing;
        }
      }
      return bits;
    }

    int neverMarked() {
      int bits = 0;
      for (int thing = 0; thing < cupboard.things; thing++) {
        if (clock[thing] == 0 && clock[MOST_THINGS + thing] == 0) {
          bits |= 1 << thing;
        }
      }
      return bits;
    }

    /** What is wanted (bits) behind a JOIN by a RULE. */
    int wantedAfter(int byRule) {
      int either = wanted[0] | wanted[1];
      int near = closeTogether(NEAR);
      switch (byRule) {
        case 1:
          return either;
        case 2:
          return wanted[0] & wanted[1];
        case 3:
          return either & near | laterWants(0) & ~near;
        default:
          return laterWants(0);
      }
    }

    int lostBy(int byRule) {
      return laterWants(0) & ~wantedAfter(byRule);
    }

    int broughtBackBy(int byRule) {
      return wantedAfter(byRule) & ~laterWants(0);
    }

    int harmOfRule(int byRule) {
      return Integer.bitCount(lostBy(byRule)) + Integer.bitCount(broughtBackBy(byRule));
    }

    /** By every RULE the one LINE has the later of the two CLOCKS. */
    int joinLists() {
      int after = wantedAfter(rule);
      int changed = Integer.bitCount(wanted[0] ^ after) + Integer.bitCount(wanted[1] ^ after);
      wanted[0] = after;
      wanted[1] = after;
      for (int thing = 0; thing < MOST_THINGS; thing++) {
        int later = Math.max(clock[thing], clock[MOST_THINGS + thing]);
        clock[thing] = later;
        clock[MOST_THINGS + thing] = later;
      }
      return changed;
    }

    int latestLine() {
      int latestClock = 0;
      int line = NONE;
      for (int thing = 0; thing < cupboard.things; thing++) {
        for (int list = 0; list < 2; list++) {
          if (clockOf(list, thing) > latestClock) {
            latestClock = clockOf(list, thing);
            line = 10 * thing + list;
          }
        }
      }
      return line;
    }
  }

  // ---- What can be taken back ----

  /** The houses as they were ahead of the latest changes, in a ring: the oldest gives way. */
  private static final class History {
    private final House[] kept = new House[MOST_BACK];
    private int next;
    private int held;

    History(Kind[] kinds) {
      for (int i = 0; i < MOST_BACK; i++) {
        kept[i] = new House(kinds);
      }
    }

    void keep(House house) {
      kept[next].become(house);
      next = (next + 1) % MOST_BACK;
      held = Math.min(MOST_BACK, held + 1);
    }

    int takeBack(House house) {
      if (held > 0) {
        next = (next + MOST_BACK - 1) % MOST_BACK;
        held--;
        house.become(kept[next]);
      }
      return held;
    }

    void forget() {
      held = 0;
    }
  }

  // ---- Letters ----

  /** The letters fed so far, and the HOUSE that they tell. */
  private static final class Letters {
    private static final int NO_STATEMENT = -1;
    private static final int NO_DIGIT = -1;
    private static final int THE_END = -1;

    private final int[] text = new int[MOST_LETTERS];
    private int length;

    boolean isFull() {
      return length >= MOST_LETTERS;
    }

    int add(int letter) {
      if (!isFull()) {
        text[length] = letter;
        length++;
      }
      return length;
    }

    void wipe() {
      length = 0;
    }

    /**
     * Makes of the trial what the letters make of a house: how many STATEMENTS, or the FAULT, with
     * which the trial is left as nobody may use it.
     */
    int tell(House from, House trial) {
      int stray = firstStray();
      if (stray >= 0) {
        return -1000 - stray;
      }
      trial.become(from);
      int statements = 0;
      for (int at = 0; at < length; at += digitsBehind(letterAt(at)) + 2) {
        if (!comesTrue(trial, at)) {
          return -2000 - at;
        }
        statements++;
      }
      return statements;
    }

    /** The place of the first letter with which no HOUSE can go on; -1. */
    private int firstStray() {
      for (int at = 0; at == 0 || at < length; at += digitsBehind(letterAt(at)) + 2) {
        int stray = strayBehind(at);
        if (stray >= 0) {
          return stray;
        }
      }
      return -1;
    }

    private int strayBehind(int at) {
      int digits = digitsBehind(letterAt(at));
      if (digits == NO_STATEMENT) {
        return at;
      }
      for (int i = 1; i <= digits; i++) {
        if (digitAt(at + i) == NO_DIGIT) {
          return at + i;
        }
      }
      int end = at + digits + 1;
      return letterAt(end) == ';' ? -1 : end;
    }

    private static int digitsBehind(int letter) {
      switch (letter) {
        case 'j':
          return 0;
        case 'r':
        case 'd':
          return 1;
        case 'w':
        case 'k':
        case 'x':
          return 2;
        case 't':
        case 's':
          return 3;
        default:
          return NO_STATEMENT;
      }
    }

    private int letterAt(int at) {
      return at >= 0 && at < length ? text[at] : THE_END;
    }

    private int digitAt(int at) {
      int letter = letterAt(at);
      return letter >= '0' && letter <= '9' ? letter - '0' : NO_DIGIT;
    }

    /** Whether the STATEMENT at a place is as it must be; then it has come. */
    private boolean comesTrue(House house, int at) {
      int first = digitAt(at + 1);
      switch (letterAt(at)) {
        case 't':
          return house.cupboard.add(first, digitAt(at + 2), digitAt(at + 3)) >= 0;
        case 's':
          house.cupboard.putStock(first, 10 * digitAt(at + 2) + digitAt(at + 3));
          return house.cupboard.has(first);
        case 'r':
          house.rule = first;
          return isOneOf(first, MOST_RULE);
        case 'd':
          house.liveDays(first);
          return house.days <= MOST_DAYS;
        case 'j':
          house.joinLists();
          return true;
        default:
          return house.markLine(first, digitAt(at + 2), letterAt(at)) == 0;
      }
    }
  }

  // ---- In mind ----

  /** Thinks DAYS ahead in a cupboard of its own; the house stays as it is. */
  private static final class Mind {
    private final House house;
    private final Cupboard shelf;
    private final int[] lackedWithout = new int[MOST_THINGS];
    private final int[] lackedWith = new int[MOST_THINGS];
    private final int[] cost = new int[MOST_THINGS];

    Mind(House house, Kind[] kinds) {
      this.house = house;
      shelf = new Cupboard(kinds);
    }

    private void begin() {
      shelf.become(house.cupboard);
      shelf.forgetTallies();
    }

    private void liveDays(int n) {
      for (int i = 0; i < n; i++) {
        shelf.liveDay();
      }
    }

    /** From a STOCK of one THING, n DAYS of it alone; the shelf tells what lacked and spoilt. */
    private void liveDaysOf(int thing, int stock, int n) {
      begin();
      shelf.putStock(thing, stock);
      for (int i = 0; i < n; i++) {
        shelf.liveDayOf(thing);
      }
    }

    private int stockWith(int thing, int packs) {
      return house.cupboard.stockOf(thing) + packs * house.cupboard.packOf(thing);
    }

    int stockBehind(int thing, int n) {
      liveDaysOf(thing, house.cupboard.stockOf(thing), n);
      return shelf.stockOf(thing);
    }

    int lackedIn(int n) {
      begin();
      liveDays(n);
      return shelf.lacked;
    }

    int spoiltIn(int n) {
      begin();
      liveDays(n);
      return shelf.spoilt;
    }

    int firstDayWithout(int thing) {
      begin();
      for (int day = 1; day <= FAR; day++) {
        if (shelf.liveDayOf(thing) > 0) {
          return day;
        }
      }
      return NONE;
    }

    int firstThingOut() {
      int first = NONE;
      int firstDay = FAR + 1;
      for (int thing = 0; thing < house.cupboard.things; thing++) {
        int day = firstDayWithout(thing);
        if (day != NONE && day < firstDay) {
          firstDay = day;
          first = thing;
        }
      }
      return first;
    }

    int firstDayWithoutSome(int k) {
      begin();
      for (int day = 1; day <= FAR; day++) {
        int lackingThings = 0;
        for (int thing = 0; thing < shelf.things; thing++) {
          lackingThings += shelf.liveDayOf(thing) > 0 ? 1 : 0;
        }
        if (lackingThings >= k) {
          return day;
        }
      }
      return NONE;
    }

    int packsFor(int thing, int n) {
      for (int packs = 0; packs <= MOST_PACKS; packs++) {
        liveDaysOf(thing, stockWith(thing, packs), n);
        if (shelf.lacked == 0) {
          return packs;
        }
      }
      return NOT_BY_PACKS;
    }

    /** Notes of each THING the PENCE for the PACKS of BUY FOR; NONE, if it can not. */
    void noteCosts(int n) {
      for (int thing = 0; thing < house.cupboard.things; thing++) {
        int packs = packsFor(thing, n);
        cost[thing] = packs == NOT_BY_PACKS ? NONE : packs * house.cupboard.priceOf(thing);
      }
    }

    int penceForAll() {
      int together = 0;
      for (int thing = 0; thing < house.cupboard.things; thing++) {
        together += Math.max(0, cost[thing]);
      }
      return together;
    }

    int fewestPence(int k) {
      int together = 0;
      for (int taken = 0; taken < k; taken++) {
        int thing = cheapestThing();
        if (thing == NONE) {
          return NONE;
        }
        together += cost[thing];
        cost[thing] = NONE;
      }
      return together;
    }

    private int cheapestThing() {
      int least = NONE;
      for (int thing = 0; thing < house.cupboard.things; thing++) {
        if (cost[thing] != NONE && (least == NONE || cost[thing] < cost[least])) {
          least = thing;
        }
      }
      return least;
    }

    int bestSet(int pence) {
      weighPacks();
      int best = 0;
      for (int set = 1; set <= house.cupboard.bitsOfAll(); set++) {
        if (priceOfSet(set) <= pence && lackedBySet(set) < lackedBySet(best)) {
          best = set;
        }
      }
      return best;
    }

    /** Notes of each THING what lacks in a week without a PACK more and with one. */
    private void weighPacks() {
      for (int thing = 0; thing < house.cupboard.things; thing++) {
        liveDaysOf(thing, stockWith(thing, 0), WEEK);
        lackedWithout[thing] = shelf.lacked;
        liveDaysOf(thing, stockWith(thing, 1), WEEK);
        lackedWith[thing] = shelf.lacked;
      }
    }

    private int priceOfSet(int set) {
      int together = 0;
      for (int thing = 0; thing < house.cupboard.things; thing++) {
        together += (set >> thing & 1) == 1 ? house.cupboard.priceOf(thing) : 0;
      }
      return together;
    }

    /** As the PACKS were weighed for the best set. */
    int lackedBySet(int set) {
      int together = 0;
      for (int thing = 0; thing < house.cupboard.things; thing++) {
        together += (set >> thing & 1) == 1 ? lackedWith[thing] : lackedWithout[thing];
      }
      return together;
    }

    int leastStockFor(int thing, int n) {
      for (int stock = 0; stock <= MOST_STOCK; stock++) {
        liveDaysOf(thing, stock, n);
        if (shelf.lacked == 0) {
          return stock;
        }
      }
      return NONE;
    }

    int mostPacksUnspoilt(int thing, int n) {
      int most = NONE;
      for (int packs = 0; packs <= MOST_PACKS; packs++) {
        liveDaysOf(thing, stockWith(thing, packs), n);
        if (packs == 0 && shelf.spoilt > 0) {
          return NONE;
        }
        most = shelf.spoilt == 0 ? packs : most;
      }
      return most;
    }

    int longestInterval(int packs) {
      for (int gap = MONTH; gap >= 1; gap--) {
        if (nothingLacksBy(packs, gap)) {
          return gap;
        }
      }
      return NONE;
    }

    private boolean nothingLacksBy(int packs, int gap) {
      begin();
      int wait = 0;
      for (int day = 0; day < MONTH && shelf.lacked == 0; day++) {
        if (wait == 0) {
          for (int thing = 0; thing < shelf.things; thing++) {
            shelf.buy(thing, packs);
          }
          wait = gap;
        }
        wait--;
        shelf.liveDay();
      }
      return shelf.lacked == 0;
    }

    int costOfTurns(int n, int way) {
      begin();
      int going = 0;
      for (int day = 0; day < n; day++) {
        boolean goes = way == 0 ? (house.days + day & 1) == 0 : isSomethingShort();
        if (goes) {
          going += 3;
          buyWhatIsBelow(2);
        }
        shelf.liveDay();
      }
      return going + shelf.pence + 2 * shelf.lacked;
    }

    private boolean isSomethingShort() {
      boolean some = false;
      for (int thing = 0; thing < shelf.things; thing++) {
        some = some || shelf.stockOf(thing) < shelf.useOf(thing);
      }
      return some;
    }

    /** One PACK of each THING with STOCK below so many times USE. */
    private void buyWhatIsBelow(int times) {
      for (int thing = 0; thing < shelf.things; thing++) {
        if (shelf.stockOf(thing) < times * shelf.useOf(thing)) {
          shelf.buy(thing, 1);
        }
      }
    }

    int penceOfMonth() {
      begin();
      for (int day = 0; day < MONTH; day++) {
        buyWhatIsBelow(1);
        shelf.liveDay();
      }
      return shelf.pence;
    }

    int bestSwap() {
      int best = NONE;
      int least = lackedIn(WEEK);
      for (int one = 0; one < house.cupboard.things; one++) {
        for (int other = one + 1; other < house.cupboard.things; other++) {
          begin();
          shelf.changeUses(one, other);
          liveDays(WEEK);
          if (shelf.lacked < least) {
            least = shelf.lacked;
            best = 10 * one + other;
          }
        }
      }
      return best;
    }

    int weeksByLot(int n, int z, int what) {
      int seed = z;
      int lackedInAll = 0;
      int penceInAll = 0;
      for (int week = 0; week < n; week++) {
        begin();
        for (int day = 0; day < WEEK; day++) {
          for (int thing = 0; thing < shelf.things; thing++) {
            seed = seed * 1103515245 + 12345;
            shelf.buy(thing, drawBelowTwo(seed));
          }
          shelf.liveDay();
        }
        lackedInAll += shelf.lacked;
        penceInAll += shelf.pence;
      }
      return what == 0 ? lackedInAll : penceInAll;
    }

    private static int drawBelowTwo(int seed) {
      return (seed & 0x7fffffff) / 65536 % 2;
    }
  }
}

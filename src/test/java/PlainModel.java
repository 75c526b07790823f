import java.math.BigInteger;
import java.util.ArrayDeque;
import java.util.ArrayList;
import java.util.Arrays;
import java.util.Deque;
import java.util.List;
import java.util.TreeMap;
import java.util.TreeSet;

/** The document once more, as plainly as the whole Java library allows: slow, and by brute force. */
public final class PlainModel {
  static final class Thing {
    int kind, figure, use, stock;
    boolean[] wanted = new boolean[2];
    int[] clock = new int[2];

    Thing copy() {
      Thing t = new Thing();
      t.kind = kind; t.figure = figure; t.use = use; t.stock = stock;
      t.wanted = wanted.clone(); t.clock = clock.clone();
      return t;
    }

    int price() {
      int plain = figure + 2;
      return new int[] {plain, plain / 2, plain, 5 * plain, plain / 2 + 3, plain - 1}[kind];
    }

    int pack() { return new int[] {1, 2, 3, 1, 2, 6}[kind]; }

    int lost(int s) {
      int over = Math.max(0, s - figure);
      return kind == 1 ? over / 2 : kind == 4 ? over : 0;
    }

    int harm(int n) {
      if (n == 0) return 3 * use;
      if (n == 1) return 0;
      return new int[] {price(), 2 * price(), 0, price() / 2, 2 * price(), 1}[kind];
    }

    void buy(int packs) { stock = Math.min(99, stock + packs * pack()); }

    /** What lacks, and what is spoilt. */
    int[] day() {
      int lacks = 0;
      for (int i = 0; i < use; i++) {
        if (stock > 0) stock--; else lacks++;
      }
      int gone = lost(stock);
      stock -= gone;
      return new int[] {lacks, gone};
    }
  }

  static final class World {
    List<Thing> things = new ArrayList<>();
    int now, days, rule, pence, lacked, spoilt;

    World copy() {
      World w = new World();
      for (Thing t : things) w.things.add(t.copy());
      w.now = now; w.days = days; w.rule = rule;
      w.pence = pence; w.lacked = lacked; w.spoilt = spoilt;
      return w;
    }

    /** The same cupboard, with nothing paid, lacked or spoilt yet. */
    World mind() {
      World w = copy();
      w.pence = 0; w.lacked = 0; w.spoilt = 0;
      return w;
    }

    void buy(int thing, int packs) {
      things.get(thing).buy(packs);
      pence += packs * things.get(thing).price();
    }

    int day() {
      days++;
      int before = lacked;
      for (Thing t : things) {
        int[] went = t.day();
        lacked += went[0];
        spoilt += went[1];
      }
      return lacked - before;
    }

    World after(int n) {
      World w = mind();
      for (int i = 0; i < n; i++) w.day();
      return w;
    }

    void mark(int list, int thing, boolean wanted) {
      now++;
      things.get(thing).wanted[list] = wanted;
      things.get(thing).clock[list] = now;
    }
  }

  private World w = new World();
  private World picture;
  private final Deque<World> past = new ArrayDeque<>();
  private final StringBuilder letters = new StringBuilder();
  private final List<Integer> row = new ArrayList<>();
  private final int[] refused = new int[10];

  private int no(int number) {
    refused[-number]++;
    return number;
  }

  private long noLong(int number) { return 4000000000000000000L - no(number); }

  private boolean none(int thing) { return thing < 0 || thing >= w.things.size(); }

  private void remember() {
    past.addLast(w.copy());
    if (past.size() > 8) past.removeFirst();
  }

  private int bits(java.util.function.Predicate<Thing> is) {
    int bits = 0;
    for (int i = 0; i < w.things.size(); i++) if (is.test(w.things.get(i))) bits += 1 << i;
    return bits;
  }

  public int feed(int letter) {
    if (letter < 0) return no(-4);
    if (letter > 255 || letters.length() == 96) return no(-6);
    letters.append((char) letter);
    return letters.length();
  }

  /** Whether some HOUSE begins so: tried by filling up what lacks. */
  private static boolean canGoOn(String begun) {
    for (String rest : new String[] {
        "", ";", "0;", "00;", "000;", "j;"}) {
      if ((begun + rest).matches("((t\\d\\d\\d|[wkx]\\d\\d|j|r\\d|d\\d|s\\d\\d\\d);)+")) return true;
    }
    return false;
  }

  public int house() {
    String text = letters.toString();
    letters.setLength(0);
    for (int i = 0; i < text.length(); i++) {
      if (!canGoOn(text.substring(0, i + 1))) return -1000 - i;
    }
    if (!text.endsWith(";")) return -1000 - text.length();
    World trial = w.copy();
    int at = 0;
    int told = 0;
    for (String s : text.split(";")) {
      if (!statement(trial, s)) return -2000 - at;
      at += s.length() + 1;
      told++;
    }
    w = trial;
    past.clear();
    return told;
  }

  private static boolean statement(World t, String s) {
    int[] d = new int[4];
    for (int i = 1; i < s.length(); i++) d[i] = s.charAt(i) - '0';
    char c = s.charAt(0);
    int size = t.things.size();
    if (c == 't') {
      if (d[1] > 5 || size == 7) return false;
      Thing thing = new Thing();
      thing.kind = d[1]; thing.figure = d[2]; thing.use = d[3];
      t.things.add(thing);
    } else if (c == 'w' || c == 'k' || c == 'x') {
      if (d[1] > 1 || d[2] >= size || t.now == 999) return false;
      t.mark(d[1], d[2], c == 'w');
      if (c == 'k') t.buy(d[2], 1);
    } else if (c == 'j') {
      joinIn(t);
    } else if (c == 'r') {
      if (d[1] > 3) return false;
      t.rule = d[1];
    } else if (c == 'd') {
      if (t.days + d[1] > 999) return false;
      for (int i = 0; i < d[1]; i++) t.day();
    } else {
      if (d[1] >= size) return false;
      t.things.get(d[1]).stock = 10 * d[2] + d[3];
    }
    return true;
  }

  public int thingOf(int thing, int what) {
    if (none(thing)) return no(-1);
    if (what < 0 || what > 8) return no(-2);
    Thing t = w.things.get(thing);
    return new int[] {t.kind, t.figure, t.use, t.stock, t.price(), t.pack(), t.lost(t.stock),
        t.harm(0), t.harm(2)}[what];
  }

  public int thing(int kind, int figure, int use) {
    if (kind < 0 || kind > 5) return no(-2);
    if (figure < 0 || use < 0) return no(-4);
    if (figure > 9 || use > 9 || w.things.size() == 7) return no(-6);
    Thing t = new Thing();
    t.kind = kind; t.figure = figure; t.use = use;
    w.things.add(t);
    past.clear();
    return w.things.size() - 1;
  }

  public int stock(int thing, int v) {
    if (none(thing)) return no(-1);
    if (v < 0) return no(-4);
    if (v > 99) return no(-6);
    remember();
    int was = w.things.get(thing).stock;
    w.things.get(thing).stock = v;
    return was;
  }

  private boolean noLine(int list, int thing) { return list != 0 && list != 1 || none(thing); }

  public int lineOf(int list, int thing, int what) {
    if (noLine(list, thing)) return no(-1);
    if (what == 0) return w.things.get(thing).wanted[list] ? 1 : 0;
    if (what == 1) return w.things.get(thing).clock[list];
    return no(-2);
  }

  public int writes(int list, int thing) {
    if (noLine(list, thing)) return no(-1);
    if (w.now == 999) return no(-6);
    remember();
    w.mark(list, thing, true);
    return w.now;
  }

  public int ticks(int list, int thing) {
    if (noLine(list, thing)) return no(-1);
    if (w.now == 999) return no(-6);
    remember();
    w.mark(list, thing, false);
    w.buy(thing, 1);
    return w.pence;
  }

  public int strikes(int list, int thing) {
    if (noLine(list, thing)) return no(-1);
    if (w.now == 999) return no(-6);
    remember();
    w.mark(list, thing, false);
    return w.now;
  }

  public int rule(int v) {
    if (v < 0 || v > 3) return no(-2);
    int was = w.rule;
    w.rule = v;
    past.clear();
    return was;
  }

  private static boolean joinedLine(Thing t, int rule, int ahead) {
    int gap = t.clock[0] - t.clock[1] - ahead;
    boolean later = gap >= 0 ? t.wanted[0] : t.wanted[1];
    if (rule == 1 || rule == 3 && Math.abs(gap) <= 2) return t.wanted[0] || t.wanted[1];
    return rule == 2 ? t.wanted[0] && t.wanted[1] : later;
  }

  private static int joinIn(World t) {
    int changed = 0;
    for (Thing thing : t.things) {
      boolean one = joinedLine(thing, t.rule, 0);
      for (int list = 0; list < 2; list++) if (thing.wanted[list] != one) changed++;
      Arrays.fill(thing.wanted, one);
      Arrays.fill(thing.clock, Math.max(thing.clock[0], thing.clock[1]));
    }
    return changed;
  }

  public int join() {
    remember();
    return joinIn(w);
  }

  public int day() {
    if (w.days == 999) return no(-6);
    remember();
    return w.day();
  }

  public int back() {
    if (past.isEmpty()) return no(-3);
    w = past.removeLast();
    return past.size();
  }

  public int apart() { return bits(t -> t.wanted[0] != t.wanted[1]); }

  private int loses(int rule) {
    return bits(t -> joinedLine(t, 0, 0) && !joinedLine(t, rule, 0));
  }

  private int brings(int rule) {
    return bits(t -> !joinedLine(t, 0, 0) && joinedLine(t, rule, 0));
  }

  public int joined(int rule, int what) {
    if (rule < 0 || rule > 3 || what < 0 || what > 2) return no(-2);
    return what == 0 ? bits(t -> joinedLine(t, rule, 0)) : what == 1 ? loses(rule) : brings(rule);
  }

  public int bestRule(int what) {
    if (what != 0 && what != 1) return no(-2);
    int best = 0, fewest = 99;
    for (int rule = 1; rule <= 3; rule++) {
      int harm = Integer.bitCount(loses(rule)) + Integer.bitCount(brings(rule));
      if (harm < fewest) { fewest = harm; best = rule; }
    }
    return what == 0 ? best : fewest;
  }

  public int stockIn(int thing, int n) {
    if (none(thing)) return no(-1);
    if (n < 0) return no(-4);
    if (n > 60) return no(-6);
    return w.after(n).things.get(thing).stock;
  }

  public int lacking(int n, int what) {
    if (n < 0) return no(-4);
    if (n > 60) return no(-6);
    if (what != 0 && what != 1) return no(-2);
    return what == 0 ? w.after(n).lacked : w.after(n).spoilt;
  }

  /** On a DAY from now, which THINGS lack (bits). */
  private int lackOn(int day) {
    World then = w.after(day - 1);
    int bits = 0;
    for (int i = 0; i < then.things.size(); i++) {
      if (then.things.get(i).stock < then.things.get(i).use) bits |= 1 << i;
    }
    return bits;
  }

  public int runsOut(int thing) {
    if (none(thing)) return no(-1);
    for (int day = 1; day <= 60; day++) if ((lackOn(day) >> thing & 1) == 1) return day;
    return -9;
  }

  public int firstOut() {
    for (int day = 1; day <= 60; day++) {
      if (lackOn(day) != 0) return Integer.numberOfTrailingZeros(lackOn(day));
    }
    return -9;
  }

  private int[] alone(int thing, int packs, int n) {
    Thing t = w.things.get(thing).copy();
    t.buy(packs);
    int[] both = new int[2];
    for (int i = 0; i < n; i++) {
      int[] went = t.day();
      both[0] += went[0];
      both[1] += went[1];
    }
    return both;
  }

  private int packs(int thing, int n) {
    for (int p = 0; p <= 20; p++) if (alone(thing, p, n)[0] == 0) return p;
    return 99;
  }

  public int buyFor(int thing, int n) {
    if (thing != -1 && none(thing)) return no(-1);
    if (n < 1) return no(-4);
    if (n > 30) return no(-6);
    if (thing >= 0) return packs(thing, n);
    int pence = 0;
    for (int i = 0; i < w.things.size(); i++) {
      if (packs(i, n) != 99) pence += packs(i, n) * w.things.get(i).price();
    }
    return pence;
  }

  public int order(int v, int what) {
    if (v < 0) return no(-4);
    if (v > 999) return no(-6);
    if (what != 0 && what != 1) return no(-2);
    int best = -1, least = Integer.MAX_VALUE;
    for (int set = 0; set < 1 << w.things.size(); set++) {
      World t = w.mind();
      for (int i = 0; i < t.things.size(); i++) if ((set >> i & 1) == 1) t.buy(i, 1);
      int paid = t.pence;
      for (int i = 0; i < 7; i++) t.day();
      if (paid <= v && t.lacked < least) { least = t.lacked; best = set; }
    }
    return what == 0 ? best : least;
  }

  /** 100 times the mean HARM: over all four cases of going and not going. */
  private int mean(Thing t, int a, int b, boolean sheBuys, boolean heBuys) {
    int harm = 0;
    for (int she = 0; she < 2; she++) {
      for (int he = 0; he < 2; he++) {
        int odds = (she == 1 ? a : 10 - a) * (he == 1 ? b : 10 - b);
        harm += odds * t.harm((sheBuys ? she : 0) + (heBuys ? he : 0));
      }
    }
    return harm;
  }

  public int unheard(int thing, int a, int b, int way) {
    if (none(thing)) return no(-1);
    if (a < 0 || b < 0) return no(-4);
    if (a > 10 || b > 10) return no(-6);
    if (way < 0 || way > 4) return no(-2);
    int[] by = new int[4];
    int best = 0;
    for (int i = 0; i < 4; i++) {
      by[i] = mean(w.things.get(thing), a, b, (i & 1) == 1, (i & 2) == 2);
      if (by[i] < by[best]) best = i;
    }
    return way == 4 ? best : by[way];
  }

  public int game(int thing) {
    if (none(thing)) return no(-1);
    Thing t = w.things.get(thing);
    int pairs = 0;
    for (int she = 0; she < 2; she++) {
      for (int he = 0; he < 2; he++) {
        int harm = t.harm(she + he);
        if (t.harm(1 - she + he) >= harm && t.harm(she + 1 - he) >= harm) pairs |= 1 << 2 * she + he;
      }
    }
    return pairs;
  }

  public int all(int a, int b, int what) {
    if (a < 0 || b < 0) return no(-4);
    if (a > 10 || b > 10) return no(-6);
    if (what != 0 && what != 1) return no(-2);
    int best = -1, least = Integer.MAX_VALUE;
    for (int set = 0; set < 1 << w.things.size(); set++) {
      int harm = 0;
      for (int i = 0; i < w.things.size(); i++) {
        boolean his = (set >> i & 1) == 1;
        harm += mean(w.things.get(i), a, b, !his, his);
      }
      if (harm < least) { least = harm; best = set; }
    }
    return what == 0 ? best : least;
  }

  private static long part(BigInteger above, BigInteger below, int part) {
    BigInteger g = above.gcd(below);
    return (part == 0 ? above : below).divide(g).longValueExact();
  }

  public long flour(int s, int n, int u, int part) {
    if (s < 0 || n < 0 || u < 0) return noLong(-4);
    if (s > 9 || n > 12 || u > 10) return noLong(-6);
    if (part != 0 && part != 1) return noLong(-2);
    BigInteger above = BigInteger.ZERO;
    for (int days = 0; days < 1 << n; days++) {
      int used = Integer.bitCount(days);
      if (used < s) {
        above = above.add(BigInteger.valueOf(u).pow(used)
            .multiply(BigInteger.valueOf(10 - u).pow(n - used)));
      }
    }
    return part(above, BigInteger.TEN.pow(n), part);
  }

  public long sure(int f, int seen, int part) {
    if (f < 2) return noLong(-4);
    if (f > 99) return noLong(-6);
    if (seen != 0 && seen != 1 || part != 0 && part != 1) return noLong(-2);
    long bought = (f - 1) * (seen == 1 ? 9 : 1);
    long not = seen == 1 ? 1 : 9;
    return part(BigInteger.valueOf(bought), BigInteger.valueOf(bought + not), part);
  }

  public int bars(int t, int c, int h) {
    if (t < 2 || c < 1 || h < 0) return no(-4);
    if (t > 20 || c > 9 || h > 99) return no(-6);
    return Math.floorDiv(h, t) > c ? 60 : 0;
  }

  public int alike(int what) {
    if (what != 0 && what != 1) return no(-2);
    int n = w.things.size(), twos = 0;
    boolean[][] together = new boolean[n][n];
    for (int i = 0; i < n; i++) {
      for (int j = 0; j < n; j++) {
        Thing a = w.things.get(i), b = w.things.get(j);
        together[i][j] = i == j || a.kind == b.kind && Math.abs(a.figure - b.figure) < 2;
        if (i < j && together[i][j]) twos++;
      }
    }
    for (int k = 0; k < n; k++) {
      for (int i = 0; i < n; i++) {
        for (int j = 0; j < n; j++) together[i][j] |= together[i][k] && together[k][j];
      }
    }
    TreeSet<String> groups = new TreeSet<>();
    for (boolean[] line : together) groups.add(Arrays.toString(line));
    return what == 0 ? twos : n - groups.size();
  }

  public int turns(int n, int way) {
    if (n < 1) return no(-4);
    if (n > 60) return no(-6);
    if (way != 0 && way != 1) return no(-2);
    World t = w.mind();
    int goings = 0;
    for (int i = 0; i < n; i++) {
      boolean goes = way == 0 ? t.days % 2 == 0 : t.things.stream().anyMatch(x -> x.stock < x.use);
      if (goes) {
        goings++;
        for (int j = 0; j < t.things.size(); j++) {
          if (t.things.get(j).stock < 2 * t.things.get(j).use) t.buy(j, 1);
        }
      }
      t.day();
    }
    return 3 * goings + t.pence + 2 * t.lacked;
  }

  public int paper(int set) {
    if (set < 0) return no(-4);
    if (set > 127) return no(-6);
    return set & bits(t -> !t.wanted[0] && !t.wanted[1]);
  }

  public int fridge(int v, int what) {
    if (v < 0) return no(-4);
    if (v > 99) return no(-6);
    if (what != 0 && what != 1) return no(-2);
    if (row.size() > 6) return no(-3);
    for (int x : row) if (noLine(x / 10, x % 10)) return no(-3);
    TreeSet<Integer> ways = new TreeSet<>();
    for (int way = 0; way < 1 << Math.max(0, row.size() - 1); way++) {
      boolean[][] wanted = new boolean[2][10];
      for (boolean[] list : wanted) Arrays.fill(list, true);
      int bought = 0;
      for (int i = 0; i < row.size(); i++) {
        int list = row.get(i) / 10, thing = row.get(i) % 10;
        if (wanted[list][thing]) { bought++; wanted[list][thing] = false; }
        if ((way >> i & 1) == 1) {
          for (int j = 0; j < 10; j++) {
            boolean one = wanted[0][j] && wanted[1][j];
            wanted[0][j] = one;
            wanted[1][j] = one;
          }
        }
      }
      if (bought == v) ways.add(way);
    }
    return what == 0 ? ways.size() : ways.isEmpty() ? -9 : ways.first();
  }

  public int latest() {
    int most = 0, line = -9;
    for (int i = w.things.size() - 1; i >= 0; i--) {
      for (int list = 1; list >= 0; list--) {
        int clock = w.things.get(i).clock[list];
        if (clock > 0 && clock >= most) { most = clock; line = 10 * i + list; }
      }
    }
    return line;
  }

  public int twice() { return bits(t -> t.wanted[0] && t.wanted[1]); }

  public int month() {
    int pence = 0;
    for (Thing now : w.things) {
      Thing t = now.copy();
      for (int i = 0; i < 30; i++) {
        if (t.stock < t.use) { t.buy(1); pence += t.price(); }
        t.day();
      }
    }
    return pence;
  }

  public int swap() {
    int least = w.after(7).lacked, best = -9;
    for (int i = 0; i < w.things.size(); i++) {
      for (int j = i + 1; j < w.things.size(); j++) {
        World t = w.copy();
        t.things.get(i).use = w.things.get(j).use;
        t.things.get(j).use = w.things.get(i).use;
        if (t.after(7).lacked < least) { least = t.after(7).lacked; best = 10 * i + j; }
      }
    }
    return best;
  }

  public int needs(int thing, int n) {
    if (none(thing)) return no(-1);
    if (n < 1) return no(-4);
    if (n > 30) return no(-6);
    for (int s = 0; s < 100; s++) {
      Thing t = w.things.get(thing).copy();
      t.stock = s;
      int lacks = 0;
      for (int i = 0; i < n; i++) lacks += t.day()[0];
      if (lacks == 0) return s;
    }
    return -9;
  }

  public int noWaste(int thing, int n) {
    if (none(thing)) return no(-1);
    if (n < 1) return no(-4);
    if (n > 30) return no(-6);
    if (alone(thing, 0, n)[1] > 0) return -9;
    for (int p = 20; p > 0; p--) if (alone(thing, p, n)[1] == 0) return p;
    return 0;
  }

  public int cheapest(int k, int n) {
    if (k < 0 || n < 1) return no(-4);
    if (k > 7 || n > 30) return no(-6);
    int fewest = -9;
    for (int set = 0; set < 1 << w.things.size(); set++) {
      int pence = 0;
      boolean can = Integer.bitCount(set) >= k;
      for (int i = 0; i < w.things.size(); i++) {
        if ((set >> i & 1) == 1) {
          can &= packs(i, n) != 99;
          pence += packs(i, n) * w.things.get(i).price();
        }
      }
      if (can && (fewest == -9 || pence < fewest)) fewest = pence;
    }
    return fewest;
  }

  public int interval(int p) {
    if (p < 1) return no(-4);
    if (p > 9) return no(-6);
    int greatest = -9;
    for (int g = 1; g <= 30; g++) {
      World t = w.mind();
      for (int day = 0; day < 30; day++) {
        if (day % g == 0) for (int i = 0; i < t.things.size(); i++) t.buy(i, p);
        t.day();
      }
      if (t.lacked == 0) greatest = g;
    }
    return greatest;
  }

  public int skew(int v) {
    if (v < -9) return no(-4);
    if (v > 9) return no(-6);
    return bits(t -> joinedLine(t, 0, 0) != joinedLine(t, 0, v));
  }

  public int close(int v) {
    if (v < 0) return no(-4);
    if (v > 9) return no(-6);
    return bits(t -> Math.abs(t.clock[0] - t.clock[1]) <= v && t.clock[0] + t.clock[1] > 0);
  }

  public int worth() {
    return w.things.stream().mapToInt(t -> t.stock * t.price() / t.pack()).sum();
  }

  public int biscuits(int what) {
    if (what != 0 && what != 1) return no(-2);
    TreeMap<Integer, Integer> told = new TreeMap<>();
    for (int x : row) {
      if (none(x)) return no(-3);
      told.merge(x, 1, Integer::sum);
    }
    if (what == 0) return told.size();
    int best = -9;
    for (int x : told.keySet()) if (best == -9 || told.get(x) > told.get(best)) best = x;
    return best;
  }

  public int lasts(int k) {
    if (k < 1) return no(-4);
    if (k > 7) return no(-6);
    for (int day = 1; day <= 60; day++) if (Integer.bitCount(lackOn(day)) >= k) return day;
    return -9;
  }

  public int weekly() {
    return w.things.stream()
        .mapToInt(t -> (int) Math.ceil(t.use * 7 / (double) t.pack()) * t.price()).sum();
  }

  public int row(int v) {
    if (v < 0) return no(-4);
    if (v > 99 || row.size() == 12) return no(-6);
    row.add(v);
    return row.size();
  }

  public int judge(int thing) {
    if (none(thing)) return no(-1);
    int first = -9;
    for (int i = row.size() - 1; i >= 0; i--) {
      if (w.after(i).things.get(thing).stock != row.get(i)) first = i;
    }
    row.clear();
    return first;
  }

  public int clear() {
    int had = row.size();
    row.clear();
    return had;
  }

  public int lots(int n, int z, int what) {
    if (n < 1) return no(-4);
    if (n > 20) return no(-6);
    if (what != 0 && what != 1) return no(-2);
    BigInteger seed = BigInteger.valueOf(z);
    int lacked = 0, pence = 0;
    for (int week = 0; week < n; week++) {
      World t = w.mind();
      for (int day = 0; day < 7; day++) {
        for (int i = 0; i < t.things.size(); i++) {
          seed = BigInteger.valueOf(seed.multiply(BigInteger.valueOf(1103515245L))
              .add(BigInteger.valueOf(12345)).intValue());
          if (seed.testBit(16)) t.buy(i, 1);
        }
        t.day();
      }
      lacked += t.lacked;
      pence += t.pence;
    }
    return what == 0 ? lacked : pence;
  }

  public int image() {
    picture = w.copy();
    return w.now;
  }

  public int restore() {
    if (picture == null) return no(-3);
    w = picture.copy();
    past.clear();
    return w.now;
  }

  public int count(int what) {
    if (what < 0 || what > 17) return -9;
    return new int[] {w.things.size(), w.now, w.days, w.rule, w.pence, w.lacked, w.spoilt,
        w.things.stream().mapToInt(t -> t.stock).sum(),
        w.things.stream().mapToInt(t -> (t.wanted[0] ? 1 : 0) + (t.wanted[1] ? 1 : 0)).sum(),
        letters.length(), row.size(), refused[1], refused[2], refused[3], refused[4], refused[5],
        refused[6], past.size()}[what];
  }
}

import java.util.ArrayList;
import java.util.List;
import java.util.function.Supplier;

/**
 * Each refusal of each promise, just outside what is allowed and far outside, and in the order in
 * which the promise tells them. Each is done on one of two objects that are alike; then these are
 * to answer alike in all but how many REFUSALS there were, to the end.
 */
public final class RefusalsTest {
  private static final String[] ON_A_RICH_ONE = {
    "2 feed(-1) -4", "2 feed(min) -4", "2 feed(256) -6", "2 feed(max) -6",

    "4 thingOf(-1, 0) -1", "4 thingOf(6, 0) -1", "4 thingOf(min, 0) -1", "4 thingOf(max, 0) -1",
    "4 thingOf(6, 9) -1", "4 thingOf(-1, -1) -1",
    "4 thingOf(0, -1) -2", "4 thingOf(5, 9) -2", "4 thingOf(0, min) -2", "4 thingOf(0, max) -2",

    "5 thing(-1, 0, 0) -2", "5 thing(6, 0, 0) -2", "5 thing(min, 0, 0) -2", "5 thing(max, 0, 0) -2",
    "5 thing(-1, -1, 0) -2", "5 thing(6, 0, -1) -2", "5 thing(-1, 10, 0) -2",
    "5 thing(6, 0, 10) -2",
    "5 thing(0, -1, 0) -4", "5 thing(0, 0, -1) -4", "5 thing(5, min, 0) -4",
    "5 thing(5, 0, min) -4",
    "5 thing(0, -1, 10) -4", "5 thing(0, 10, -1) -4", "5 thing(0, max, min) -4",
    "5 thing(0, 10, 0) -6", "5 thing(0, 0, 10) -6", "5 thing(5, max, 9) -6",
    "5 thing(5, 9, max) -6",

    "6 stock(-1, 0) -1", "6 stock(6, 0) -1", "6 stock(min, 0) -1", "6 stock(max, 0) -1",
    "6 stock(-1, -1) -1", "6 stock(6, 100) -1",
    "6 stock(0, -1) -4", "6 stock(5, min) -4", "6 stock(0, 100) -6", "6 stock(5, max) -6",

    "7 lineOf(-1, 0, 0) -1", "7 lineOf(2, 0, 0) -1", "7 lineOf(min, 0, 0) -1",
    "7 lineOf(max, 0, 0) -1", "7 lineOf(0, -1, 0) -1", "7 lineOf(1, -1, 0) -1",
    "7 lineOf(0, 6, 0) -1", "7 lineOf(1, 6, 1) -1", "7 lineOf(0, min, 0) -1",
    "7 lineOf(1, max, 0) -1", "7 lineOf(2, 5, 2) -1", "7 lineOf(1, 6, -1) -1",
    "7 lineOf(0, 0, -1) -2", "7 lineOf(1, 5, 2) -2", "7 lineOf(0, 0, min) -2",
    "7 lineOf(0, 0, max) -2",

    "8 writes(-1, 0) -1", "8 writes(2, 0) -1", "8 writes(0, -1) -1", "8 writes(0, 6) -1",
    "8 writes(1, -1) -1", "8 writes(1, 6) -1", "8 writes(min, max) -1", "8 writes(max, min) -1",
    "9 ticks(-1, 0) -1", "9 ticks(2, 0) -1", "9 ticks(0, -1) -1", "9 ticks(0, 6) -1",
    "9 ticks(1, -1) -1", "9 ticks(1, 6) -1", "9 ticks(min, max) -1", "9 ticks(max, min) -1",
    "10 strikes(-1, 0) -1", "10 strikes(2, 0) -1", "10 strikes(0, -1) -1", "10 strikes(0, 6) -1",
    "10 strikes(1, -1) -1", "10 strikes(1, 6) -1", "10 strikes(min, max) -1",
    "10 strikes(max, min) -1",

    "11 rule(-1) -2", "11 rule(4) -2", "11 rule(min) -2", "11 rule(max) -2",

    "16 joined(-1, 0) -2", "16 joined(4, 0) -2", "16 joined(0, -1) -2", "16 joined(3, 3) -2",
    "16 joined(4, 3) -2", "16 joined(min, max) -2", "16 joined(max, min) -2",

    "17 bestRule(-1) -2", "17 bestRule(2) -2", "17 bestRule(min) -2", "17 bestRule(max) -2",

    "18 stockIn(-1, 0) -1", "18 stockIn(6, 0) -1", "18 stockIn(min, 0) -1", "18 stockIn(max, 0) -1",
    "18 stockIn(6, -1) -1", "18 stockIn(-1, 61) -1", "18 stockIn(0, -1) -4",
    "18 stockIn(5, min) -4", "18 stockIn(0, 61) -6", "18 stockIn(5, max) -6",

    "19 lacking(-1, 0) -4", "19 lacking(min, 1) -4", "19 lacking(61, 0) -6",
    "19 lacking(max, 1) -6", "19 lacking(-1, 2) -4", "19 lacking(61, 2) -6",
    "19 lacking(-1, -1) -4", "19 lacking(61, -1) -6", "19 lacking(0, 2) -2",
    "19 lacking(60, -1) -2", "19 lacking(0, min) -2", "19 lacking(60, max) -2",

    "20 runsOut(-1) -1", "20 runsOut(6) -1", "20 runsOut(min) -1", "20 runsOut(max) -1",

    "22 buyFor(-2, 1) -1", "22 buyFor(6, 1) -1", "22 buyFor(min, 1) -1", "22 buyFor(max, 1) -1",
    "22 buyFor(-2, 0) -1", "22 buyFor(6, 31) -1", "22 buyFor(-1, 0) -4", "22 buyFor(0, 0) -4",
    "22 buyFor(-1, min) -4", "22 buyFor(5, min) -4", "22 buyFor(-1, 31) -6", "22 buyFor(0, 31) -6",
    "22 buyFor(-1, max) -6", "22 buyFor(5, max) -6",

    "23 order(-1, 0) -4", "23 order(min, 1) -4", "23 order(1000, 0) -6", "23 order(max, 1) -6",
    "23 order(-1, 2) -4", "23 order(1000, 2) -6", "23 order(-1, -1) -4", "23 order(1000, -1) -6",
    "23 order(0, 2) -2", "23 order(999, -1) -2", "23 order(0, min) -2", "23 order(999, max) -2",

    "24 unheard(-1, 0, 0, 0) -1", "24 unheard(6, 0, 0, 0) -1", "24 unheard(min, 0, 0, 0) -1",
    "24 unheard(max, 0, 0, 0) -1", "24 unheard(6, -1, 0, 0) -1", "24 unheard(-1, 0, 11, 0) -1",
    "24 unheard(6, 0, 0, 5) -1", "24 unheard(0, -1, 0, 0) -4", "24 unheard(0, 0, -1, 0) -4",
    "24 unheard(0, min, 0, 0) -4", "24 unheard(0, 0, min, 0) -4", "24 unheard(0, 11, -1, 0) -4",
    "24 unheard(0, -1, 11, 0) -4", "24 unheard(0, -1, 0, 5) -4", "24 unheard(0, 0, -1, -1) -4",
    "24 unheard(0, 11, 0, 0) -6", "24 unheard(5, 0, 11, 4) -6", "24 unheard(0, max, 0, 0) -6",
    "24 unheard(0, 0, max, 0) -6", "24 unheard(0, 11, 0, 5) -6", "24 unheard(0, 0, 11, -1) -6",
    "24 unheard(0, 0, 0, -1) -2", "24 unheard(5, 10, 10, 5) -2", "24 unheard(0, 0, 0, min) -2",
    "24 unheard(0, 0, 0, max) -2",

    "25 game(-1) -1", "25 game(6) -1", "25 game(min) -1", "25 game(max) -1",

    "26 all(-1, 0, 0) -4", "26 all(0, -1, 1) -4", "26 all(min, 0, 0) -4", "26 all(0, min, 0) -4",
    "26 all(-1, 11, 0) -4", "26 all(11, -1, 0) -4", "26 all(-1, 0, 2) -4", "26 all(0, -1, -1) -4",
    "26 all(11, 0, 0) -6", "26 all(0, 11, 1) -6", "26 all(max, 0, 0) -6", "26 all(0, max, 0) -6",
    "26 all(11, 0, 2) -6", "26 all(0, 11, -1) -6", "26 all(10, 10, 2) -2", "26 all(0, 0, -1) -2",
    "26 all(0, 0, min) -2", "26 all(0, 0, max) -2",

    "27 flour(-1, 0, 0, 0) -4", "27 flour(0, -1, 0, 0) -4", "27 flour(0, 0, -1, 1) -4",
    "27 flour(min, 0, 0, 0) -4", "27 flour(0, min, 0, 0) -4", "27 flour(0, 0, min, 0) -4",
    "27 flour(-1, 13, 0, 0) -4", "27 flour(10, -1, 0, 0) -4", "27 flour(0, 13, -1, 0) -4",
    "27 flour(10, 0, -1, 2) -4", "27 flour(0, 0, -1, 2) -4",
    "27 flour(10, 0, 0, 0) -6", "27 flour(0, 13, 0, 0) -6", "27 flour(0, 0, 11, 1) -6",
    "27 flour(max, 0, 0, 0) -6", "27 flour(0, max, 0, 0) -6", "27 flour(0, 0, max, 0) -6",
    "27 flour(10, 0, 0, 2) -6", "27 flour(0, 13, 0, -1) -6", "27 flour(0, 0, 11, 2) -6",
    "27 flour(9, 12, 10, 2) -2", "27 flour(0, 0, 0, -1) -2", "27 flour(0, 0, 0, min) -2",
    "27 flour(0, 0, 0, max) -2",

    "28 sure(1, 0, 0) -4", "28 sure(min, 1, 1) -4", "28 sure(100, 0, 0) -6",
    "28 sure(max, 1, 1) -6",
    "28 sure(1, 2, 0) -4", "28 sure(1, 0, 2) -4", "28 sure(100, -1, 0) -6",
    "28 sure(100, 0, -1) -6",
    "28 sure(2, -1, 0) -2", "28 sure(99, 2, 0) -2", "28 sure(2, 0, -1) -2", "28 sure(99, 1, 2) -2",
    "28 sure(2, min, max) -2", "28 sure(2, max, min) -2",

    "29 bars(1, 1, 0) -4", "29 bars(2, 0, 0) -4", "29 bars(2, 1, -1) -4", "29 bars(min, 1, 0) -4",
    "29 bars(2, min, 0) -4", "29 bars(2, 1, min) -4", "29 bars(0, 1, 0) -4", "29 bars(1, 10, 0) -4",
    "29 bars(21, 0, 0) -4", "29 bars(21, 1, -1) -4", "29 bars(2, 0, 100) -4",
    "29 bars(1, 1, 100) -4", "29 bars(2, 10, -1) -4",
    "29 bars(21, 1, 0) -6", "29 bars(2, 10, 0) -6", "29 bars(2, 1, 100) -6",
    "29 bars(max, 9, 99) -6",
    "29 bars(20, max, 99) -6", "29 bars(20, 9, max) -6",

    "30 alike(-1) -2", "30 alike(2) -2", "30 alike(min) -2", "30 alike(max) -2",

    "31 turns(0, 0) -4", "31 turns(-1, 1) -4", "31 turns(min, 0) -4", "31 turns(61, 0) -6",
    "31 turns(max, 1) -6", "31 turns(0, 2) -4", "31 turns(61, 2) -6", "31 turns(0, -1) -4",
    "31 turns(61, -1) -6", "31 turns(1, 2) -2", "31 turns(60, -1) -2", "31 turns(1, min) -2",
    "31 turns(1, max) -2",

    "32 paper(-1) -4", "32 paper(min) -4", "32 paper(128) -6", "32 paper(max) -6",

    "33 fridge(-1, 0) -4", "33 fridge(min, 1) -4", "33 fridge(100, 0) -6", "33 fridge(max, 1) -6",
    "33 fridge(-1, 2) -4", "33 fridge(100, -1) -6", "33 fridge(0, 2) -2", "33 fridge(99, -1) -2",
    "33 fridge(0, min) -2", "33 fridge(0, max) -2",

    "38 needs(-1, 1) -1", "38 needs(6, 1) -1", "38 needs(min, 1) -1", "38 needs(max, 1) -1",
    "38 needs(6, 0) -1", "38 needs(-1, 31) -1", "38 needs(0, 0) -4", "38 needs(5, min) -4",
    "38 needs(0, 31) -6", "38 needs(5, max) -6",

    "39 noWaste(-1, 1) -1", "39 noWaste(6, 1) -1", "39 noWaste(min, 1) -1", "39 noWaste(max, 1) -1",
    "39 noWaste(6, 0) -1", "39 noWaste(-1, 31) -1", "39 noWaste(0, 0) -4", "39 noWaste(5, min) -4",
    "39 noWaste(0, 31) -6", "39 noWaste(5, max) -6",

    "40 cheapest(-1, 1) -4", "40 cheapest(0, 0) -4", "40 cheapest(min, 1) -4",
    "40 cheapest(0, min) -4", "40 cheapest(8, 0) -4", "40 cheapest(-1, 31) -4",
    "40 cheapest(8, 1) -6", "40 cheapest(7, 31) -6", "40 cheapest(max, 1) -6",
    "40 cheapest(0, max) -6",

    "41 interval(0) -4", "41 interval(-1) -4", "41 interval(min) -4", "41 interval(10) -6",
    "41 interval(max) -6",

    "42 skew(-10) -4", "42 skew(min) -4", "42 skew(10) -6", "42 skew(max) -6",
    "43 close(-1) -4", "43 close(min) -4", "43 close(10) -6", "43 close(max) -6",
    "45 biscuits(-1) -2", "45 biscuits(2) -2", "45 biscuits(min) -2", "45 biscuits(max) -2",
    "46 lasts(0) -4", "46 lasts(-1) -4", "46 lasts(min) -4", "46 lasts(8) -6", "46 lasts(max) -6",
    "48 row(-1) -4", "48 row(min) -4", "48 row(100) -6", "48 row(max) -6",
    "49 judge(-1) -1", "49 judge(6) -1", "49 judge(min) -1", "49 judge(max) -1",

    "51 lots(0, 0, 0) -4", "51 lots(-1, 0, 1) -4", "51 lots(min, 0, 0) -4", "51 lots(21, 0, 0) -6",
    "51 lots(max, 0, 1) -6", "51 lots(0, 0, 2) -4", "51 lots(21, 0, 2) -6", "51 lots(0, 0, -1) -4",
    "51 lots(21, 0, -1) -6", "51 lots(1, min, 2) -2", "51 lots(20, max, -1) -2",
    "51 lots(1, 0, min) -2", "51 lots(1, 0, max) -2",
  };

  private static final String[] ON_A_NEW_ONE = {
    "2 feed(-1) -4", "2 feed(256) -6", "4 thingOf(0, 0) -1", "4 thingOf(0, 9) -1",
    "5 thing(6, 0, 0) -2", "5 thing(0, 0, -1) -4", "5 thing(0, 10, 0) -6", "6 stock(0, 0) -1",
    "6 stock(0, 100) -1", "7 lineOf(0, 0, 0) -1", "7 lineOf(1, 0, 2) -1", "8 writes(0, 0) -1",
    "9 ticks(1, 0) -1", "10 strikes(0, 0) -1", "11 rule(4) -2", "14 back() -3",
    "18 stockIn(0, 0) -1", "18 stockIn(0, 61) -1", "20 runsOut(0) -1", "22 buyFor(0, 1) -1",
    "22 buyFor(0, 0) -1", "22 buyFor(-1, 0) -4", "22 buyFor(-1, 31) -6",
    "24 unheard(0, 0, 0, 0) -1",
    "24 unheard(0, -1, 11, 5) -1", "25 game(0) -1", "33 fridge(100, 0) -6", "38 needs(0, 1) -1",
    "38 needs(0, 31) -1", "39 noWaste(0, 1) -1", "39 noWaste(0, 0) -1", "49 judge(0) -1",
    "53 restore() -3",
  };

  /** Seven THINGS, 12 in the ROW, 96 letters, nothing to be taken back, no image. */
  private static final String[] ON_A_FULL_ONE = {
    "2 feed(0) -6", "2 feed(255) -6", "2 feed(256) -6", "2 feed(-1) -4",
    "4 thingOf(7, 0) -1", "4 thingOf(6, 9) -2",
    "5 thing(0, 0, 0) -6", "5 thing(5, 9, 9) -6", "5 thing(0, 10, 0) -6", "5 thing(0, -1, 0) -4",
    "5 thing(0, 0, -1) -4", "5 thing(6, 0, 0) -2", "5 thing(-1, -1, 10) -2",
    "6 stock(7, 0) -1", "7 lineOf(1, 7, 0) -1", "8 writes(0, 7) -1", "9 ticks(1, 7) -1",
    "10 strikes(0, 7) -1", "14 back() -3", "18 stockIn(7, 0) -1", "20 runsOut(7) -1",
    "22 buyFor(7, 1) -1", "24 unheard(7, 0, 0, 0) -1", "25 game(7) -1", "38 needs(7, 1) -1",
    "39 noWaste(7, 1) -1",
    "33 fridge(0, 0) -3", "33 fridge(99, 1) -3", "33 fridge(0, 2) -2", "33 fridge(99, -1) -2",
    "33 fridge(100, 0) -6", "33 fridge(-1, 0) -4", "33 fridge(-1, 2) -4", "33 fridge(100, 2) -6",
    "48 row(0) -6", "48 row(99) -6", "48 row(100) -6", "48 row(-1) -4",
    "49 judge(7) -1", "53 restore() -3",
  };

  /** In the ROW a number that is a LINE, and one that is none: 6 with six THINGS. */
  private static final String[] WITH_A_STRAY_IN_THE_ROW = {
    "33 fridge(0, 0) -3", "33 fridge(99, 1) -3", "33 fridge(0, 2) -2", "33 fridge(100, 0) -6",
    "33 fridge(-1, 0) -4", "45 biscuits(0) -3", "45 biscuits(1) -3", "45 biscuits(2) -2",
    "45 biscuits(-1) -2", "49 judge(6) -1",
  };

  /** Questions that can be answered: they leave all as it was, and are not counted. */
  private static final String[] QUESTIONS = {
    "thingOf(5, 8)", "lineOf(1, 5, 1)", "apart()", "joined(3, 2)", "bestRule(1)", "stockIn(1, 60)",
    "lacking(60, 1)", "runsOut(1)", "firstOut()", "buyFor(-1, 30)", "buyFor(5, 30)",
    "order(999, 0)", "unheard(5, 10, 10, 4)", "game(5)", "all(10, 10, 1)", "flour(9, 12, 10, 1)",
    "sure(99, 1, 1)", "bars(20, 9, 99)", "alike(1)", "turns(60, 1)", "turns(60, 0)", "paper(127)",
    "fridge(99, 1)", "latest()", "twice()", "month()", "swap()", "needs(5, 30)", "noWaste(5, 30)",
    "cheapest(7, 30)", "interval(9)", "skew(9)", "skew(-9)", "close(9)", "worth()", "biscuits(1)",
    "lasts(7)", "weekly()", "lots(20, max, 1)", "count(17)", "count(18)", "count(-1)",
  };

  private static final String[] ON_DAY_999 = {"13 day() -6", "49 judge(1) -1"};

  private final Check check = new Check();

  /** All that the object can be asked for; the last questions use it up. */
  private static List<Long> all(MilkTwice x) {
    List<Long> answers = new ArrayList<>();
    describe(x, answers);
    for (int what = 0; what < 2; what++) {
      answers.add((long) x.biscuits(what));
      for (int v = 0; v < 4; v++) {
        answers.add((long) x.fridge(v, what));
      }
    }
    answers.add((long) x.judge(1));
    for (int i = 0; i < 9; i++) {
      answers.add((long) x.back());
    }
    describe(x, answers);
    answers.add((long) x.restore());
    describe(x, answers);
    answers.add((long) x.house());
    describe(x, answers);
    return answers;
  }

  private static void describe(MilkTwice x, List<Long> answers) {
    for (int what = 0; what < 18; what++) {
      // How many REFUSALS there were is looked at where they are made.
      if (what < 11 || what > 16) {
        answers.add((long) x.count(what));
      }
    }
    for (int thing = 0; thing < x.count(0); thing++) {
      for (int what = 0; what < 4; what++) {
        answers.add((long) x.thingOf(thing, what));
      }
      for (int list = 0; list < 2; list++) {
        answers.add((long) x.lineOf(list, thing, 0));
        answers.add((long) x.lineOf(list, thing, 1));
      }
    }
  }

  private void refused(String state, String row, Supplier<MilkTwice> make) {
    int end = row.lastIndexOf(' ');
    String name = row.substring(0, end) + " on " + state;
    String call = row.substring(row.indexOf(' ') + 1, end);
    int number = Integer.parseInt(row.substring(end + 1));
    boolean isLong = call.startsWith("flour") || call.startsWith("sure");
    MilkTwice x = make.get();
    MilkTwice y = make.get();
    check.due(name, Call.on(x, call), isLong ? 4000000000000000000L - number : number);
    for (int what = 11; what <= 16; what++) {
      int more = what == 10 - number ? 1 : 0;
      check.due(name + ", then count(" + what + ")", x.count(what), y.count(what) + more);
    }
    check.due(name + ", all else is as it was", all(x).equals(all(y)) ? 1 : 0, 1);
  }

  private void asked(String call) {
    MilkTwice x = rich();
    MilkTwice y = rich();
    Call.on(x, call);
    for (int what = 11; what <= 16; what++) {
      check.due(call + ", then count(" + what + ")", x.count(what), y.count(what));
    }
    check.due(call + ", all is as it was", all(x).equals(all(y)) ? 1 : 0, 1);
  }

  private void refusedEach(String state, String[] rows, Supplier<MilkTwice> make) {
    for (String row : rows) {
      refused(state, row, make);
    }
  }

  /** Six THINGS, an image, 8 that can be taken back, 3 in the ROW, letters that tell a HOUSE. */
  private static MilkTwice rich() {
    MilkTwice x = Check.cupboard();
    x.rule(1);
    x.writes(1, 2);
    x.image();
    x.writes(0, 0);
    x.ticks(1, 5);
    x.strikes(1, 0);
    x.stock(3, 7);
    x.day();
    x.writes(0, 4);
    x.join();
    x.writes(1, 1);
    x.row(1);
    x.row(0);
    x.row(1);
    Check.feedAll(x, "w03;d1;");
    x.bestRule(9);
    x.stock(9, 9);
    return x;
  }

  private static MilkTwice full() {
    MilkTwice x = Check.lists();
    for (int i = 0; i < 12; i++) {
      x.row(i % 4);
    }
    for (int i = 0; i < 32; i++) {
      Check.feedAll(x, "d0;");
    }
    return x;
  }

  private static MilkTwice withStray() {
    MilkTwice x = rich();
    x.row(6);
    return x;
  }

  private static MilkTwice onDay999() {
    MilkTwice x = Check.told("t001;");
    for (int i = 1; i <= 111; i++) {
      Check.feedAll(x, "d9;");
      if (i % 32 == 0 || i == 111) {
        x.house();
      }
    }
    return x;
  }

  public static void main(String[] args) {
    RefusalsTest test = new RefusalsTest();
    test.refusedEach("a rich one", ON_A_RICH_ONE, RefusalsTest::rich);
    test.refusedEach("a new one", ON_A_NEW_ONE, MilkTwice::new);
    test.refusedEach("a full one", ON_A_FULL_ONE, RefusalsTest::full);
    test.refusedEach("one with a stray in the ROW", WITH_A_STRAY_IN_THE_ROW,
        RefusalsTest::withStray);
    test.refusedEach("one on DAY 999", ON_DAY_999, RefusalsTest::onDay999);
    for (String call : QUESTIONS) {
      test.asked(call);
    }
    test.check.end();
  }
}

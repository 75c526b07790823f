/** Promises 18 to 23, 30, 31, 36 to 41, 44, 46, 47 and 51: the cupboard, some DAYS on. */
public final class CupboardTest {
  private final Check check = new Check();

  private void due(String call, long answer, long want) {
    check.due(call, answer, want);
  }

  private void promise18StockIn() {
    MilkTwice x = Check.cupboard();
    int[] sour = {19, 10, 6, 3, 0, 0};
    for (int n = 0; n < sour.length; n++) {
      due("18 stockIn(1, " + n + ")", x.stockIn(1, n), sour[n]);
    }
    due("18 stockIn(2, 2)", x.stockIn(2, 2), 1);
    due("18 stockIn(0, 60)", x.stockIn(0, 60), 0);
    MilkTwice y = Check.told("t402;s099;");
    due("18 stockIn(0, 1) of FRESH", y.stockIn(0, 1), 0);
    due("18 thingOf(1, 3)", x.thingOf(1, 3), 19);
    due("18 stockIn(6, -1)", x.stockIn(6, -1), -1);
    due("18 stockIn(-1, 0)", x.stockIn(-1, 0), -1);
    due("18 stockIn(0, -1)", x.stockIn(0, -1), -4);
    due("18 stockIn(0, 61)", x.stockIn(0, 61), -6);
  }

  private void promise19Lacking() {
    MilkTwice x = Check.cupboard();
    int[] lacking = {0, 5, 12, 20, 30, 43, 56, 69};
    int[] spoilt = {0, 6, 7, 7, 7, 7, 7, 7};
    for (int n = 0; n < lacking.length; n++) {
      due("19 lacking(" + n + ", 0)", x.lacking(n, 0), lacking[n]);
      due("19 lacking(" + n + ", 1)", x.lacking(n, 1), spoilt[n]);
    }
    due("19 lacking(60, 0)", x.lacking(60, 0), 69 + 53 * 13);
    x.day();
    due("19 lacking(1, 0), of these days alone", x.lacking(1, 0), 7);
    due("19 lacking(1, 1), of these days alone", x.lacking(1, 1), 1);
    due("19 lacking(-1, 2)", x.lacking(-1, 2), -4);
    due("19 lacking(61, 2)", x.lacking(61, 2), -6);
    due("19 lacking(60, 2)", x.lacking(60, 2), -2);
    due("19 lacking(0, -1)", x.lacking(0, -1), -2);
    check.counts("19", x, 2, 1);
  }

  private void promises20And21RunsOut() {
    MilkTwice x = Check.cupboard();
    int[] days = {3, 5, 4, 1, 1, 1};
    for (int thing = 0; thing < 6; thing++) {
      due("20 runsOut(" + thing + ")", x.runsOut(thing), days[thing]);
    }
    due("21 firstOut(), of several", x.firstOut(), 3);
    due("20 runsOut(6)", x.runsOut(6), -1);
    due("20 runsOut(-1)", x.runsOut(-1), -1);
    MilkTwice y = Check.told("t000;t001;s159;");
    due("21 firstOut(), the first", Check.told("t003;t001;s005;s109;").firstOut(), 0);
    due("20 runsOut(0), USE 0", y.runsOut(0), -9);
    due("20 runsOut(1)", y.runsOut(1), 60);
    due("21 firstOut()", y.firstOut(), 1);
    y.stock(1, 60);
    due("20 runsOut(1), 60 DAYS", y.runsOut(1), -9);
    due("21 firstOut()", y.firstOut(), -9);
  }

  private void promise22BuyFor() {
    MilkTwice x = Check.cupboard();
    int[] packs = {5, 8, 1, 5, 99, 2};
    for (int thing = 0; thing < 6; thing++) {
      due("22 buyFor(" + thing + ", 5)", x.buyFor(thing, 5), packs[thing]);
    }
    due("22 buyFor(4, 1)", x.buyFor(4, 1), 1);
    due("22 buyFor(-1, 1)", x.buyFor(-1, 1), 25 + 5 + 2);
    due("22 buyFor(2, 30)", x.buyFor(2, 30), 9);
    due("22 buyFor(0, 2)", x.buyFor(0, 2), 0);
    due("22 buyFor(-1, 5)", x.buyFor(-1, 5), 5 * 5 + 8 * 3 + 4 + 5 * 25 + 2 * 2);
    due("22 buyFor(-2, 0)", x.buyFor(-2, 0), -1);
    due("22 buyFor(6, 0)", x.buyFor(6, 0), -1);
    due("22 buyFor(-1, 0)", x.buyFor(-1, 0), -4);
    due("22 buyFor(5, 0)", x.buyFor(5, 0), -4);
    due("22 buyFor(-1, 31)", x.buyFor(-1, 31), -6);
    due("22 buyFor(5, 31)", x.buyFor(5, 31), -6);
    MilkTwice y = Check.told("t001;t009;s199;");
    due("22 buyFor(0, 20)", y.buyFor(0, 20), 20);
    due("22 buyFor(0, 21)", y.buyFor(0, 21), 99);
    due("22 buyFor(1, 11)", y.buyFor(1, 11), 0);
    due("22 buyFor(1, 12), STOCK is 99 at most", y.buyFor(1, 12), 99);
    due("22 buyFor(-1, 21), none can", y.buyFor(-1, 21), 0);
    due("22 count(4)", y.count(4), 0);
  }

  private void promise23Order() {
    MilkTwice x = Check.cupboard();
    int[] pence = {0, 1, 2, 6, 10, 11, 16, 40, 41, 999};
    int[] sets = {0, 0, 32, 36, 36, 52, 53, 53, 61, 61};
    int[] lacking = {69, 69, 63, 60, 60, 58, 57, 57, 56, 56};
    for (int i = 0; i < pence.length; i++) {
      due("23 order(" + pence[i] + ", 0)", x.order(pence[i], 0), sets[i]);
      due("23 order(" + pence[i] + ", 1)", x.order(pence[i], 1), lacking[i]);
    }
    MilkTwice y = Check.told("t001;t001;");
    due("23 order(4, 0), all", y.order(4, 0), 3);
    due("23 order(4, 1), all", y.order(4, 1), 12);
    due("23 order(3, 0), not both", y.order(3, 0), 1);
    due("23 order(2, 0), of several", y.order(2, 0), 1);
    due("23 order(-1, 2)", x.order(-1, 2), -4);
    due("23 order(1000, 2)", x.order(1000, 2), -6);
    due("23 order(0, 2)", x.order(0, 2), -2);
    due("23 order(0, -1)", x.order(0, -1), -2);
    due("23 count(4)", x.count(4), 0);
  }

  private void alike(String text, int twos, int questions) {
    MilkTwice x = Check.told(text);
    due("30 alike(0) of " + text, x.alike(0), twos);
    due("30 alike(1) of " + text, x.alike(1), questions);
  }

  private void promise30Alike() {
    alike("t030;t040;t050;t070;t140;t140;", 3, 3);
    alike("t030;t030;t040;", 3, 2);
    alike("t010;t050;t030;t020;t040;", 4, 4);
    alike("t150;t450;t250;t350;t550;t050;", 0, 0);
    MilkTwice x = Check.cupboard();
    due("30 alike(2)", x.alike(2), -2);
    due("30 alike(-1)", x.alike(-1), -2);
  }

  private void promise31Turns() {
    MilkTwice x = Check.told("t032;");
    due("31 turns(3, 0)", x.turns(3, 0), 24);
    due("31 turns(3, 1)", x.turns(3, 1), 30);
    x.day();
    due("31 turns(3, 0), DAYS 1", x.turns(3, 0), 18);
    x.stock(0, 3);
    due("31 turns(1, 1), not below", x.turns(1, 1), 0);
    due("31 turns(2, 1)", x.turns(2, 1), 8);
    x.day();
    x.stock(0, 3);
    due("31 turns(1, 0), below twice USE", x.turns(1, 0), 8);
    x.stock(0, 4);
    due("31 turns(1, 0), not below", x.turns(1, 0), 3);
    MilkTwice y = Check.told("t032;t032;s103;");
    due("31 turns(1, 1) of two", y.turns(1, 1), 15);
    y.stock(0, 4);
    due("31 turns(1, 1), none below", y.turns(1, 1), 0);
    y.stock(0, 2);
    due("31 turns(1, 1), just USE", y.turns(1, 1), 0);
    y.stock(1, 1);
    due("31 turns(1, 1), the other", y.turns(1, 1), 13);
    y.ticks(0, 0);
    due("31 turns(1, 1), PENCE so far not", y.turns(1, 1), 13);
    due("31 turns(0, 2)", y.turns(0, 2), -4);
    due("31 turns(61, 2)", y.turns(61, 2), -6);
    due("31 turns(60, 2)", y.turns(60, 2), -2);
    due("31 turns(60, -1)", y.turns(60, -1), -2);
    due("31 turns(60, 0) of none", new MilkTwice().turns(60, 0), 90);
  }

  private void promise36Month() {
    due("36 month()", Check.told("t032;").month(), 150);
    due("36 month()", Check.told("t032;t221;").month(), 190);
    due("36 month(), enough", Check.told("t032;s060;").month(), 0);
    due("36 month(), not enough", Check.told("t032;s059;").month(), 5);
    due("36 month(), USE 0", Check.told("t030;").month(), 0);
    due("36 month(), PENCE so far not", Check.told("t000;t032;k00;k00;").month(), 150);
    due("36 month() of none", new MilkTwice().month(), 0);
  }

  private void promise37Swap() {
    due("37 swap()", Check.told("t009;t001;s163;").swap(), 1);
    due("37 swap(), of several", Check.told("t009;t001;t001;s163;s263;").swap(), 1);
    due("37 swap(), the best", Check.told("t001;t009;t001;s010;s263;").swap(), 12);
    due("37 swap(), not less", Check.told("t009;t001;").swap(), -9);
    due("37 swap(), alike", Check.told("t003;t003;s163;").swap(), -9);
    MilkTwice x = Check.told("t009;t001;s163;");
    due("37 swap(), twice", x.swap(), 1);
    due("37 thingOf(0, 2)", x.thingOf(0, 2), 9);
  }

  private void promise38Needs() {
    MilkTwice x = Check.told("t032;t143;t009;t000;t434;");
    int[][] due = {{0, 1, 2}, {0, 5, 10}, {1, 1, 3}, {1, 2, 6}, {1, 3, 10}, {2, 11, 99}, {2, 12, -9},
        {3, 30, 0}, {4, 1, 4}, {4, 2, -9}, {0, 30, 60}};
    for (int[] d : due) {
      due("38 needs(" + d[0] + ", " + d[1] + ")", x.needs(d[0], d[1]), d[2]);
    }
    due("38 needs(5, 0)", x.needs(5, 0), -1);
    due("38 needs(-1, 1)", x.needs(-1, 1), -1);
    due("38 needs(0, 0)", x.needs(0, 0), -4);
    due("38 needs(0, 31)", x.needs(0, 31), -6);
  }

  private void promise39NoWaste() {
    MilkTwice x = Check.cupboard();
    due("39 noWaste(0, 30)", x.noWaste(0, 30), 20);
    due("39 noWaste(1, 1)", x.noWaste(1, 1), -9);
    due("39 noWaste(2, 1)", x.noWaste(2, 1), 20);
    due("39 noWaste(4, 9)", x.noWaste(4, 9), 2);
    x.stock(1, 3);
    due("39 noWaste(1, 1)", x.noWaste(1, 1), 2);
    x.stock(1, 9);
    due("39 noWaste(1, 1), none more", x.noWaste(1, 1), -9);
    x.stock(1, 8);
    due("39 noWaste(1, 1), none more", x.noWaste(1, 1), 0);
    due("39 noWaste(6, 0)", x.noWaste(6, 0), -1);
    due("39 noWaste(-1, 1)", x.noWaste(-1, 1), -1);
    due("39 noWaste(0, 0)", x.noWaste(0, 0), -4);
    due("39 noWaste(0, 31)", x.noWaste(0, 31), -6);
  }

  private void promise40Cheapest() {
    MilkTwice x = Check.cupboard();
    int[] pence = {0, 4, 8, 32, 57, 182, -9, -9};
    for (int k = 0; k < 8; k++) {
      due("40 cheapest(" + k + ", 5)", x.cheapest(k, 5), pence[k]);
    }
    due("40 cheapest(1, 30)", x.cheapest(1, 30), 20);
    due("40 cheapest(6, 1)", x.cheapest(6, 1), 32);
    due("40 cheapest(-1, 31)", x.cheapest(-1, 31), -4);
    due("40 cheapest(8, 0)", x.cheapest(8, 0), -4);
    due("40 cheapest(8, 1)", x.cheapest(8, 1), -6);
    due("40 cheapest(0, 31)", x.cheapest(0, 31), -6);
  }

  private void interval(String text, int p, int want) {
    due("41 interval(" + p + ") of " + text, Check.told(text).interval(p), want);
  }

  private void promise41Interval() {
    interval("t001;", 1, 1);
    interval("t001;", 9, 9);
    interval("t001;s021;", 9, 30);
    interval("t001;s020;", 9, 29);
    interval("t000;", 1, 30);
    interval("t009;", 1, -9);
    interval("t506;", 5, 5);
    interval("t505;s099;", 9, 19);
    interval("t001;t002;", 6, 3);
    MilkTwice x = new MilkTwice();
    due("41 interval(0)", x.interval(0), -4);
    due("41 interval(10)", x.interval(10), -6);
  }

  private void promises44And47Worth() {
    MilkTwice x = Check.cupboard();
    x.stock(5, 5);
    due("44 worth()", x.worth(), 25 + 28 + 4 + 5 + 1);
    due("47 weekly()", x.weekly(), 70 + 33 + 12 + 175 + 70 + 6);
    due("44 worth() of none", new MilkTwice().worth(), 0);
    due("47 weekly() of none", new MilkTwice().weekly(), 0);
  }

  private void promise46Lasts() {
    MilkTwice x = Check.cupboard();
    int[] days = {1, 1, 1, 3, 4, 5, -9};
    for (int k = 1; k < 8; k++) {
      due("46 lasts(" + k + ")", x.lasts(k), days[k - 1]);
    }
    due("46 lasts(1), DAY 60", Check.told("t001;s059;").lasts(1), 60);
    due("46 lasts(1), later", Check.told("t001;s060;").lasts(1), -9);
    due("46 lasts(0)", x.lasts(0), -4);
    due("46 lasts(8)", x.lasts(8), -6);
  }

  private void promise51Lots() {
    MilkTwice x = Check.told("t031;");
    due("51 lots(1, 0, 0)", x.lots(1, 0, 0), 4);
    due("51 lots(1, 0, 1)", x.lots(1, 0, 1), 15);
    Check.tell(x, "t222;s101;");
    due("51 lots(1, -7, 0)", x.lots(1, -7, 0), 6);
    due("51 lots(1, -7, 1)", x.lots(1, -7, 1), 31);
    due("51 lots(2, -7, 0)", x.lots(2, -7, 0), 13);
    due("51 lots(2, -7, 1)", x.lots(2, -7, 1), 63);
    due("51 lots(20, 2147483647, 0)", x.lots(20, 2147483647, 0), 141);
    due("51 lots(20, 2147483647, 1)", x.lots(20, 2147483647, 1), 642);
    due("51 lots(0, 0, 2)", x.lots(0, 0, 2), -4);
    due("51 lots(21, 0, 2)", x.lots(21, 0, 2), -6);
    due("51 lots(20, 0, 2)", x.lots(20, 0, 2), -2);
    due("51 lots(1, 0, -1)", x.lots(1, 0, -1), -2);
    check.counts("51", x, 2, 0, 0, 0, 0);
  }

  public static void main(String[] args) {
    CupboardTest test = new CupboardTest();
    test.promise18StockIn();
    test.promise19Lacking();
    test.promises20And21RunsOut();
    test.promise22BuyFor();
    test.promise23Order();
    test.promise30Alike();
    test.promise31Turns();
    test.promise36Month();
    test.promise37Swap();
    test.promise38Needs();
    test.promise39NoWaste();
    test.promise40Cheapest();
    test.promise41Interval();
    test.promises44And47Worth();
    test.promise46Lasts();
    test.promise51Lots();
    test.check.end();
  }
}

/**
 * Each edge that the document names, on both sides of it: the least and the greatest that is
 * allowed, empty, full, just enough, one too few, of several the least. A run is an object told in
 * letters, then calls with the answer that is due behind "=", or behind "!" the refusal that is
 * due; at its end there were as many REFUSALS as were due, so that no other answer is counted.
 */
public final class EdgesTest {
  private final Check check = new Check();

  private void run(String told, String... rows) {
    MilkTwice x = new MilkTwice();
    if (!told.isEmpty()) {
      check.due("house() of " + told, Check.tell(x, told) >= 0 ? 1 : 0, 1);
    }
    int[] refusals = new int[7];
    for (String row : rows) {
      String[] words = row.split(" [=!] ");
      long due = Long.parseLong(words[1]);
      boolean isHouse = words[0].endsWith(";") || words[0].startsWith(":");
      long answer = isHouse ? Check.tell(x, words[0].replace(":", "")) : Call.on(x, words[0]);
      check.due(words[0] + " on " + told, answer, due);
      if (row.contains(" ! ")) {
        refusals[(int) (due > 0 ? due - 4000000000000000000L : -due)]++;
      }
    }
    for (int number = 1; number <= 6; number++) {
      check.due("count(" + (10 + number) + ") behind the run on " + told, x.count(10 + number),
          refusals[number]);
    }
  }

  // ---- I: things ----

  private void thingsAreSevenAtMost() {
    run("", "thing(0, 0, 0) = 0", "thing(5, 9, 9) = 1", "thing(1, 0, 9) = 2", "thing(2, 9, 0) = 3",
        "thing(3, 1, 1) = 4", "thing(4, 8, 8) = 5", "thingOf(6, 0) ! -1", "count(0) = 6",
        "thing(0, 0, 0) = 6", "thingOf(6, 0) = 0", "thing(0, 0, 0) ! -6", "count(0) = 7");
    run("t000;t000;t000;t000;t000;t000;", "t000;t000; = -2005", "count(0) = 6", "t000; = 1",
        "t000; = -2000", "count(0) = 7");
    run("", "thing(-1, 0, 0) ! -2", "thing(6, 0, 0) ! -2", "thing(0, 10, 0) ! -6",
        "thing(0, 0, 10) ! -6", "thing(0, -1, 0) ! -4", "thing(0, 0, -1) ! -4", "count(0) = 0");
  }

  private void pricesAreCut() {
    int[][] prices = {{2, 3, 4, 5, 6, 7, 8, 9, 10, 11}, {1, 1, 2, 2, 3, 3, 4, 4, 5, 5},
        {2, 3, 4, 5, 6, 7, 8, 9, 10, 11}, {10, 15, 20, 25, 30, 35, 40, 45, 50, 55},
        {4, 4, 5, 5, 6, 6, 7, 7, 8, 8}, {1, 2, 3, 4, 5, 6, 7, 8, 9, 10}};
    int[] packs = {1, 2, 3, 1, 2, 6};
    for (int kind = 0; kind < 6; kind++) {
      for (int figure = 0; figure < 10; figure++) {
        int price = prices[kind][figure];
        int[] harms = {price, 2 * price, 0, price / 2, 2 * price, 1};
        run("t" + kind + figure + "9;", "thingOf(0, 0) = " + kind, "thingOf(0, 1) = " + figure,
            "thingOf(0, 2) = 9", "thingOf(0, 3) = 0", "thingOf(0, 4) = " + price,
            "thingOf(0, 5) = " + packs[kind], "thingOf(0, 6) = 0", "thingOf(0, 7) = 27",
            "thingOf(0, 8) = " + harms[kind], "thingOf(0, 9) ! -2", "thingOf(0, -1) ! -2");
      }
    }
  }

  private void lost(String told, int stock, int lost) {
    run(told, "stock(0, " + stock + ") = 0", "thingOf(0, 6) = " + lost,
        "day() = 0", "thingOf(0, 3) = " + (stock - lost), "count(6) = " + lost);
  }

  private void lostIsWhatIsAboveTheFigure() {
    int[][] sour = {{0, 0}, {2, 0}, {3, 0}, {4, 0}, {5, 1}, {6, 1}, {7, 2}, {98, 47}, {99, 48}};
    int[][] fresh = {{0, 0}, {2, 0}, {3, 0}, {4, 1}, {5, 2}, {99, 96}};
    for (int[] pair : sour) {
      lost("t130;", pair[0], pair[1]);
    }
    for (int[] pair : fresh) {
      lost("t430;", pair[0], pair[1]);
    }
    lost("t100;", 1, 0);
    lost("t100;", 2, 1);
    lost("t190;", 10, 0);
    lost("t190;", 11, 1);
    lost("t400;", 1, 1);
    lost("t490;", 9, 0);
    lost("t490;", 10, 1);
    for (String told : new String[] {"t000;", "t200;", "t300;", "t500;"}) {
      lost(told, 99, 0);
    }
    // USE is taken ahead of what is LOST.
    run("t132;s007;", "thingOf(0, 6) = 2", "day() = 0", "thingOf(0, 3) = 4", "count(6) = 1");
    run("t432;s005;", "day() = 0", "thingOf(0, 3) = 3", "count(6) = 0");
  }

  private void stockIsNinetyNineAtMost() {
    run("t000;", "stock(0, 0) = 0", "stock(0, 99) = 0", "stock(0, 100) ! -6", "stock(0, -1) ! -4",
        "thingOf(0, 3) = 99", "stock(0, 98) = 99", "ticks(0, 0) = 2", "thingOf(0, 3) = 99",
        "ticks(1, 0) = 4", "thingOf(0, 3) = 99");
    run("t500;s092;", "ticks(0, 0) = 1", "thingOf(0, 3) = 98", "ticks(0, 0) = 2",
        "thingOf(0, 3) = 99");
    run("t500;s093;", "ticks(0, 0) = 1", "thingOf(0, 3) = 99");
    run("t500;s094;", "ticks(0, 0) = 1", "thingOf(0, 3) = 99");
    run("t000;s099;k00;", "thingOf(0, 3) = 99", "s000; = 1", "thingOf(0, 3) = 0", "s099; = 1",
        "thingOf(0, 3) = 99");
  }

  // ---- I: letters ----

  private void lettersAreNinetySixAtMost() {
    MilkTwice x = new MilkTwice();
    check.due("feed(0)", x.feed(0), 1);
    check.due("feed(255)", x.feed(255), 2);
    check.due("house()", x.house(), -1000);
    for (int i = 1; i <= 96; i++) {
      check.due("feed " + i, x.feed(i % 2 == 1 ? 'j' : ';'), i);
    }
    check.due("feed, 96 there", x.feed('j'), -6);
    check.due("house() of 96 letters", x.house(), 48);
    check.counts("letters", x, 9, 0, 0, 0, 0, 0, 0, 0, 1);
    String many = "j;".repeat(47);
    run("", many + "j; = 48", ":" + many + "jj = -1095", ":" + many + "j = -1095",
        ":" + many + "r0 = -1096",
        ":" + many + "rj = -1095", ":" + many + "r4 = -1096", ":" + many + "; = -1094");
  }

  private void eachLetterOfAStatement() {
    for (int letter = 0; letter < 256; letter++) {
      boolean begins = "twkxjrds".indexOf(letter) >= 0;
      MilkTwice x = new MilkTwice();
      x.feed(letter);
      check.due("house() of letter " + letter, x.house(), begins ? -1001 : -1000);
      boolean goesOn = letter >= '0' && letter <= '9';
      x.feed('r');
      x.feed(letter);
      check.due("house() of r, letter " + letter, x.house(), goesOn ? -1002 : -1001);
      x.feed('j');
      x.feed(letter);
      check.due("house() of j, letter " + letter, x.house(), letter == ';' ? 1 : -1001);
    }
    for (String s : new String[] {"t000;", "w00;", "k00;", "x00;", "j;", "r0;", "d0;", "s000;"}) {
      for (int at = 0; at < s.length(); at++) {
        for (char wrong : new char[] {'/', ':', (char) (s.charAt(at) + 128)}) {
          String text = s.substring(0, at) + wrong + s.substring(at + 1);
          MilkTwice x = new MilkTwice();
          check.due("house() of " + text, Check.tell(x, text), -1000 - at);
          check.due("house() of j;" + text, Check.tell(x, "j;" + text), -1002 - at);
        }
        MilkTwice x = new MilkTwice();
        check.due("house() of " + s + " to " + at, Check.tell(x, s.substring(0, at)), -1000 - at);
      }
    }
    run("", ": = -1000", ":; = -1000", "j;; = -1002", ":j;j = -1003", "j0; = -1001",
        "r00; = -1002", "d10; = -1002", "w000; = -1003", "t0000; = -1004", "s0000; = -1004");
  }

  private void statementsThatAreNotAsTheyMustBe() {
    run("", "t500; = 1", "t600; = -2000", "t900; = -2000", "t599; = 1", "t000;t600; = -2005",
        "count(0) = 2");
    run("t000;t000;", "w01; = 1", "w11; = 1", "w02; = -2000", "w20; = -2000", "w90; = -2000",
        "k01; = 1", "k11; = 1", "k02; = -2000", "k20; = -2000", "x01; = 1", "x11; = 1",
        "x02; = -2000", "x20; = -2000", "s100; = 1", "s200; = -2000", "s900; = -2000",
        "r3; = 1", "r4; = -2000", "r9; = -2000", "count(1) = 6", "count(3) = 3");
    // Behind all ahead of it in the text, and no further.
    run("", "w00;t000; = -2000", "t000;w00; = 2", "t000;w01;w02; = -2009", "count(0) = 1",
        "t000;w01; = 2", "s200;t000; = -2000", "t000;s299; = 2", "thingOf(2, 3) = 99");
    // A letter with which no HOUSE can go on is told first, wherever it is.
    run("", ":t600;q = -1005", ":w99;j = -1005", "t600;r4; = -2000", "r3;r4;t600; = -2003");
  }

  private void withAFaultNothingComes() {
    run("t001;s009;w00;", "writes(1, 0) = 2", "day() = 0", "t000;w01;k00;d3;r2;j;s050;w02; = -2026",
        "count(0) = 1", "count(1) = 2", "count(2) = 1", "count(3) = 0", "count(4) = 0",
        "count(7) = 8", "count(8) = 2", "count(9) = 0", "count(17) = 2",
        ":t000;w01;k00;d3;r2;j;s050;w00 = -1029", "count(0) = 1", "count(9) = 0", "count(17) = 2",
        "back() = 1", "count(2) = 0", "back() = 0", "count(8) = 1", "back() ! -3");
  }

  private void daysAndNowAreNineHundredNinetyNineAtMost() {
    String nines = "d9;".repeat(32);
    run(nines, nines + " = 32", nines + " = 32", "d9;".repeat(14) + " = 14", "count(2) = 990",
        "d9;d1; = -2003", "count(2) = 990", "d8; = 1", "day() = 0", "count(2) = 999",
        "day() ! -6", "count(2) = 999", "d0; = 1", "d1; = -2000", "d0;d9; = -2003", "j; = 1");
    // NOW 999 is further than 512 calls reach; the class keeps to it all the same.
    MilkTwice x = Check.told("t000;");
    for (int i = 0; i < 40; i++) {
      Check.tell(x, "w00;k00;x00;".repeat(8));
    }
    check.due("count(1)", x.count(1), 960);
    check.due("39 more", Check.tell(x, "w00;k00;x00;".repeat(8)) + Check.tell(x,
        "w00;k00;x00;".repeat(4) + "w00;w00;"), 38);
    check.due("writes(0, 0), NOW 998", x.writes(0, 0), 999);
    check.due("house(), NOW 999", Check.tell(x, "j;w00;"), -2002);
    check.due("house(), NOW 999", Check.tell(x, "k01;"), -2000);
    for (String call : new String[] {"writes", "ticks", "strikes"}) {
      check.due(call + "(0, 0), NOW 999", Call.on(x, call + "(0, 0)"), -6);
      check.due(call + "(1, 0), NOW 999", Call.on(x, call + "(1, 0)"), -6);
      check.due(call + "(0, 1), NOW 999", Call.on(x, call + "(0, 1)"), -1);
      check.due(call + "(2, 0), NOW 999", Call.on(x, call + "(2, 0)"), -1);
    }
    check.counts("NOW 999", x, 11, 6, 0, 0, 0, 0, 6);
    check.counts("NOW 999", x, 1, 999);
  }

  // ---- I: lists ----

  private void joinedByEachRule() {
    // CLOCKS 1 and 3 are 2 apart, 1 and 4 are 3 apart, whoever is later.
    run("t000;t000;w00;x01;x10;", "joined(0, 0) = 0", "joined(3, 0) = 1", "joined(3, 2) = 1");
    run("t000;t000;w00;x01;x01;x10;", "joined(0, 0) = 0", "joined(3, 0) = 0", "joined(3, 2) = 0");
    run("t000;t000;w10;x01;x00;", "joined(0, 0) = 0", "joined(3, 0) = 1", "joined(3, 2) = 1");
    run("t000;t000;w10;x01;x01;x00;", "joined(0, 0) = 0", "joined(3, 0) = 0", "joined(3, 2) = 0");
    // A LINE nobody touched has CLOCK 0.
    run("t000;t000;w01;w00;", "joined(3, 0) = 3", "joined(0, 0) = 3", "joined(2, 0) = 0",
        "joined(2, 1) = 3");
    run("t000;t000;x01;x01;w00;", "joined(0, 0) = 1", "joined(3, 0) = 1", "rule(3) = 0",
        "join() = 1", "lineOf(1, 0, 0) = 1", "lineOf(1, 0, 1) = 3", "join() = 0", "count(1) = 3");
    run("", "join() = 0", "joined(3, 0) = 0", "rule(0) = 0", "rule(3) = 0", "rule(1) = 3",
        "rule(2) = 1", "rule(4) ! -2", "rule(-1) ! -2", "rule(0) = 2");
    for (int rule = 0; rule < 4; rule++) {
      int[] wanted = {0, 1, 0, 1};
      run("t000;w00;x10;r" + rule + ";", "joined(" + rule + ", 0) = " + wanted[rule], "join() = 1",
          "lineOf(0, 0, 0) = " + wanted[rule], "lineOf(1, 0, 0) = " + wanted[rule],
          "lineOf(0, 0, 1) = 2", "lineOf(1, 0, 1) = 2", "join() = 0");
    }
  }

  private void backIsEightAtMost() {
    run("t000;", "writes(0, 0) = 1", "writes(0, 0) = 2", "writes(0, 0) = 3", "writes(0, 0) = 4",
        "writes(0, 0) = 5", "writes(0, 0) = 6", "writes(0, 0) = 7", "count(17) = 7",
        "writes(0, 0) = 8", "count(17) = 8", "writes(0, 0) = 9", "count(17) = 8", "back() = 7",
        "back() = 6", "writes(0, 0) = 8", "count(17) = 7", "back() = 6", "back() = 5", "back() = 4",
        "back() = 3", "back() = 2", "back() = 1", "back() = 0", "count(1) = 1",
        "lineOf(0, 0, 0) = 1", "back() ! -3", "count(1) = 1");
    // Each that is not refused counts, also if all stays as it was; what is refused does not.
    run("t000;", "stock(0, 0) = 0", "join() = 0", "day() = 0", "count(17) = 3",
        "stock(0, 100) ! -6", "writes(2, 0) ! -1", "ticks(0, 1) ! -1", "strikes(0, -1) ! -1",
        "count(17) = 3",
        "rule(4) ! -2", "thing(6, 0, 0) ! -2", "restore() ! -3", ":r1 = -1002", "r4; = -2000",
        ": = -1000", "count(17) = 3", "image() = 0", "count(17) = 3");
    String[] leaveNone = {"rule(0) = 0", "thing(0, 0, 0) = 1", "j; = 1", "restore() = 0"};
    for (String call : leaveNone) {
      run("t000;", "image() = 0", "join() = 0", "join() = 0", "count(17) = 2", call,
          "count(17) = 0", "back() ! -3");
    }
    run("", "join() = 0", "day() = 0", "count(17) = 2", "thing(0, 0, 0) = 0", "count(17) = 0",
        "back() ! -3", "count(0) = 1", "count(2) = 1");
  }

  private void imageIsAllOfI() {
    run("t032;", "restore() ! -3", "image() = 0", "writes(0, 0) = 1", "restore() = 0",
        "count(1) = 0", "lineOf(0, 0, 0) = 0", "writes(1, 0) = 1", "ticks(1, 0) = 5",
        "day() = 1", "rule(2) = 0", "thing(1, 1, 1) = 1", "row(7) = 1", "feed(106) = 1",
        "game(9) ! -1", "image() = 2", "restore() = 2", "count(0) = 2", "count(2) = 1",
        "count(3) = 2", "count(4) = 5", "count(5) = 1", "rule(0) = 2", "thing(0, 0, 0) = 2",
        "day() = 3", "clear() = 1", "restore() = 2", "count(0) = 2", "count(2) = 1",
        "count(3) = 2", "count(4) = 5", "count(5) = 1", "count(9) = 1", "count(10) = 0",
        "count(17) = 0", "thingOf(2, 0) ! -1");
    run("", "image() = 0", "thing(0, 0, 0) = 0", "restore() = 0", "count(0) = 0");
  }

  // ---- II: lists in mind ----

  private void bestRuleOfSeveralTheLeast() {
    run("", "bestRule(0) = 1", "bestRule(1) = 0");
    run("t000;t000;w00;x01;x01;x10;", "bestRule(0) = 2", "bestRule(1) = 0");
    run("t000;t000;w00;x10;x01;x01;w01;", "bestRule(0) = 1", "bestRule(1) = 1");
    run("t000;t000;w00;x10;w01;", "bestRule(0) = 1", "bestRule(1) = 1");
  }

  // ---- II: the cupboard in mind ----

  private void daysOnAreSixtyAtMost() {
    run("t001;s060;t100;s103;", "stockIn(0, 0) = 60", "stockIn(0, 1) = 59", "stockIn(0, 59) = 1",
        "stockIn(0, 60) = 0", "stockIn(0, 61) ! -6", "stockIn(0, -1) ! -4", "stockIn(1, 0) = 3",
        "stockIn(1, 1) = 2", "stockIn(1, 2) = 1", "stockIn(1, 60) = 1", "lacking(0, 0) = 0",
        "lacking(0, 1) = 0", "lacking(60, 0) = 0", "lacking(1, 1) = 1", "lacking(2, 1) = 2",
        "lacking(60, 1) = 2", "lacking(61, 0) ! -6", "lacking(-1, 1) ! -4", "day() = 0",
        "lacking(59, 0) = 0", "lacking(60, 0) = 1", "lacking(60, 1) = 1");
    run("", "lacking(60, 0) = 0", "lacking(60, 1) = 0", "firstOut() = -9");
  }

  private void runsOutFromTheFirstToTheSixtieth() {
    run("t001;", "runsOut(0) = 1", "firstOut() = 0");
    run("t009;s008;", "runsOut(0) = 1");
    run("t009;s009;", "runsOut(0) = 2");
    run("t001;s059;", "runsOut(0) = 60", "firstOut() = 0", "lasts(1) = 60", "lasts(2) = -9");
    run("t001;s060;", "runsOut(0) = -9", "firstOut() = -9", "lasts(1) = -9");
    run("t001;t001;t001;s002;s101;s201;", "firstOut() = 1", "runsOut(0) = 3", "runsOut(2) = 2",
        "lasts(1) = 2", "lasts(2) = 2", "lasts(3) = 3", "lasts(4) = -9", "lasts(7) = -9",
        "lasts(8) ! -6", "lasts(0) ! -4");
    run("t000;", "runsOut(0) = -9", "firstOut() = -9");
    run("t001;t001;t001;t001;t001;t001;t001;", "lasts(7) = 1", "lasts(1) = 1");
  }

  private void buyForByTwentyPacksAtMost() {
    run("t001;", "buyFor(0, 1) = 1", "buyFor(0, 20) = 20", "buyFor(0, 21) = 99",
        "buyFor(0, 30) = 99", "buyFor(-1, 20) = 40", "buyFor(-1, 21) = 0", "buyFor(0, 31) ! -6",
        "buyFor(-1, 31) ! -6", "buyFor(0, 0) ! -4", "buyFor(-1, 0) ! -4", "buyFor(-2, 1) ! -1",
        "buyFor(1, 1) ! -1");
    run("t001;s010;", "buyFor(0, 10) = 0", "buyFor(0, 11) = 1", "buyFor(0, 30) = 20",
        "buyFor(-1, 10) = 0", "buyFor(-1, 30) = 40");
    run("t001;s009;t000;t201;", "buyFor(0, 30) = 99", "buyFor(1, 30) = 0", "buyFor(2, 30) = 10",
        "buyFor(2, 1) = 1", "buyFor(2, 3) = 1", "buyFor(2, 4) = 2", "buyFor(-1, 30) = 20");
    run("", "buyFor(-1, 1) = 0", "buyFor(-1, 30) = 0");
  }

  private void orderWithJustEnoughPence() {
    run("t001;t011;", "order(0, 0) = 0", "order(0, 1) = 14", "order(1, 0) = 0", "order(2, 0) = 1",
        "order(2, 1) = 13", "order(3, 0) = 1", "order(4, 0) = 1", "order(5, 0) = 3",
        "order(5, 1) = 12", "order(999, 0) = 3", "order(999, 1) = 12", "order(1000, 0) ! -6",
        "order(-1, 0) ! -4", "order(0, 2) ! -2", "order(999, -1) ! -2");
    // What does not lessen what lacks is not in the set of the least bits.
    run("t000;t001;t001;s107;", "order(999, 0) = 4", "order(999, 1) = 6");
    run("t001;s006;", "order(999, 0) = 1", "order(999, 1) = 0");
    run("t001;s007;", "order(999, 0) = 0", "order(999, 1) = 0");
    run("", "order(0, 0) = 0", "order(999, 1) = 0");
  }

  private void unheardByTenths() {
    run("t001;", "unheard(0, 0, 0, 0) = 300", "unheard(0, 0, 0, 3) = 300",
        "unheard(0, 0, 0, 4) = 0", "unheard(0, 10, 0, 1) = 0", "unheard(0, 10, 0, 2) = 300",
        "unheard(0, 10, 0, 3) = 0",
        "unheard(0, 10, 0, 4) = 1", "unheard(0, 0, 10, 1) = 300", "unheard(0, 0, 10, 2) = 0",
        "unheard(0, 0, 10, 4) = 2", "unheard(0, 10, 10, 3) = 200", "unheard(0, 10, 10, 4) = 1",
        "unheard(0, 1, 1, 0) = 300", "unheard(0, 1, 1, 1) = 270", "unheard(0, 1, 1, 3) = 245",
        "unheard(0, 1, 1, 4) = 3", "unheard(0, 11, 0, 0) ! -6", "unheard(0, 0, 11, 0) ! -6",
        "unheard(0, -1, 0, 0) ! -4", "unheard(0, 0, -1, 0) ! -4", "unheard(0, 0, 0, 5) ! -2",
        "unheard(0, 0, 0, -1) ! -2");
    // With nothing to lose, all ways are alike but that of two.
    run("t000;", "unheard(0, 10, 10, 3) = 200", "unheard(0, 10, 10, 4) = 0");
    // Price 6, USE 2: alike for a 5 and b 0 by her and by each.
    run("t042;", "unheard(0, 5, 0, 1) = 300", "unheard(0, 5, 0, 3) = 300",
        "unheard(0, 5, 0, 4) = 1", "unheard(0, 5, 10, 2) = 0", "unheard(0, 5, 10, 4) = 2",
        "unheard(0, 5, 5, 1) = 300", "unheard(0, 5, 5, 3) = 300", "unheard(0, 5, 5, 4) = 1");
  }

  private void gameWithHarmsThatAreAlike() {
    // HARM of none 0, of two above 0; all 0; of none above 0, of two 0.
    run("t000;", "game(0) = 7", "thingOf(0, 7) = 0");
    run("t200;", "game(0) = 15");
    run("t201;", "game(0) = 14");
    run("t001;", "game(0) = 6");
    run("t500;", "game(0) = 7");
  }

  private void allOfSeveralTheLeast() {
    run("t001;t001;", "all(0, 0, 0) = 0", "all(0, 0, 1) = 600", "all(10, 10, 0) = 0",
        "all(10, 10, 1) = 0", "all(5, 5, 0) = 0", "all(5, 6, 0) = 3", "all(6, 5, 0) = 0",
        "all(5, 6, 1) = 240", "all(0, 10, 0) = 3", "all(0, 10, 1) = 0", "all(11, 0, 0) ! -6",
        "all(0, 11, 0) ! -6", "all(-1, 0, 0) ! -4", "all(0, -1, 0) ! -4", "all(0, 0, 2) ! -2",
        "all(0, 0, -1) ! -2");
    run("t000;t001;", "all(0, 10, 0) = 2");
    run("t009;t009;t009;t009;t009;t009;t009;", "all(0, 1, 0) = 127", "all(0, 1, 1) = 17010",
        "all(0, 0, 1) = 18900");
    run("", "all(0, 10, 0) = 0", "all(0, 10, 1) = 0");
  }

  private void flourFromNothingToTheMost() {
    run("", "flour(0, 0, 0, 0) = 0", "flour(0, 0, 0, 1) = 1", "flour(0, 12, 10, 0) = 0",
        "flour(0, 12, 10, 1) = 1", "flour(9, 12, 0, 0) = 1", "flour(9, 12, 0, 1) = 1",
        "flour(9, 9, 10, 0) = 0", "flour(9, 9, 10, 1) = 1", "flour(9, 8, 10, 0) = 1",
        "flour(9, 8, 10, 1) = 1", "flour(1, 1, 10, 0) = 0", "flour(1, 1, 0, 0) = 1",
        "flour(9, 9, 1, 0) = 999999999", "flour(9, 9, 1, 1) = 1000000000",
        "flour(1, 12, 9, 0) = 1", "flour(1, 12, 9, 1) = 1000000000000", "flour(1, 1, 2, 0) = 4",
        "flour(1, 1, 2, 1) = 5", "flour(9, 12, 10, 0) = 0", "flour(9, 12, 9, 1) = 200000000000",
        "flour(9, 12, 9, 0) = 5127494033", "flour(10, 0, 0, 0) ! 4000000000000000006",
        "flour(0, 13, 0, 0) ! 4000000000000000006", "flour(0, 0, 11, 0) ! 4000000000000000006",
        "flour(-1, 0, 0, 0) ! 4000000000000000004", "flour(0, -1, 0, 0) ! 4000000000000000004",
        "flour(0, 0, -1, 0) ! 4000000000000000004", "flour(0, 0, 0, 2) ! 4000000000000000002",
        "flour(0, 0, 0, -1) ! 4000000000000000002");
  }

  private void sureFromTwoToNinetyNine() {
    run("", "sure(2, 0, 0) = 1", "sure(2, 0, 1) = 10", "sure(2, 1, 0) = 9", "sure(2, 1, 1) = 10",
        "sure(3, 0, 0) = 2", "sure(3, 0, 1) = 11", "sure(3, 1, 0) = 18", "sure(3, 1, 1) = 19",
        "sure(99, 0, 0) = 98", "sure(99, 0, 1) = 107", "sure(99, 1, 0) = 882",
        "sure(99, 1, 1) = 883", "sure(1, 0, 0) ! 4000000000000000004",
        "sure(100, 0, 0) ! 4000000000000000006", "sure(2, 2, 0) ! 4000000000000000002",
        "sure(2, -1, 0) ! 4000000000000000002", "sure(2, 0, 2) ! 4000000000000000002",
        "sure(2, 0, -1) ! 4000000000000000002");
  }

  private void barsJustAboveTheCost() {
    run("", "bars(2, 1, 0) = 0", "bars(2, 1, 2) = 0", "bars(2, 1, 3) = 0", "bars(2, 1, 4) = 60",
        "bars(20, 1, 39) = 0", "bars(20, 1, 40) = 60", "bars(20, 9, 99) = 0", "bars(2, 9, 99) = 60",
        "bars(2, 9, 19) = 0", "bars(2, 9, 20) = 60", "bars(11, 8, 99) = 60", "bars(11, 9, 99) = 0",
        "bars(2, 9, 0) = 0", "bars(1, 1, 0) ! -4", "bars(21, 1, 0) ! -6", "bars(2, 0, 0) ! -4",
        "bars(2, 10, 0) ! -6", "bars(2, 1, -1) ! -4", "bars(2, 1, 100) ! -6");
  }

  private void alikeNoMoreThanOneApart() {
    run("t000;t010;", "alike(0) = 1", "alike(1) = 1");
    run("t010;t000;", "alike(0) = 1", "alike(1) = 1");
    run("t000;t020;", "alike(0) = 0", "alike(1) = 0");
    run("t020;t000;", "alike(0) = 0", "alike(1) = 0");
    run("t000;t020;t010;", "alike(0) = 2", "alike(1) = 2");
    run("t450;t150;t051;t059;", "alike(0) = 1", "alike(1) = 1");
    run("t000;t000;t000;t000;t000;t000;t000;", "alike(0) = 21", "alike(1) = 6");
    run("t000;", "alike(0) = 0", "alike(1) = 0");
    run("", "alike(0) = 0", "alike(1) = 0");
  }

  private void turnsBelowTwiceTheUse() {
    run("", "turns(1, 0) = 3", "turns(2, 0) = 3", "turns(3, 0) = 6", "turns(60, 0) = 90",
        "turns(60, 1) = 0", "day() = 0", "turns(1, 0) = 0", "turns(2, 0) = 3", "turns(60, 0) = 90",
        "turns(0, 0) ! -4", "turns(61, 0) ! -6", "turns(1, 2) ! -2", "turns(60, -1) ! -2");
    // PRICE 2, USE 2: below twice USE one is bought, at twice USE none.
    run("t002;s003;", "turns(1, 0) = 5", "stock(0, 4) = 3", "turns(1, 0) = 3", "stock(0, 5) = 4",
        "turns(1, 0) = 3");
    // By 1 she goes with STOCK below USE, not with just USE.
    run("t002;s001;", "turns(1, 1) = 5", "stock(0, 2) = 1", "turns(1, 1) = 0", "stock(0, 0) = 2",
        "turns(1, 1) = 7", "stock(0, 2) = 0", "turns(2, 1) = 7");
    // She goes for one, and all that is below twice USE comes with it.
    run("t002;t002;s001;s103;", "turns(1, 1) = 7", "stock(1, 4) = 3", "turns(1, 1) = 5");
    // USE 0 is below nothing.
    run("t000;", "turns(60, 1) = 0", "turns(1, 0) = 3");
  }

  // ---- II: paper, refrigerator, ROW, weeks by lot ----

  private void paperOfThingsThereAre() {
    run("t000;t000;w00;", "paper(0) = 0", "paper(1) = 0", "paper(2) = 2", "paper(127) = 2",
        "paper(124) = 0", "paper(128) ! -6", "paper(-1) ! -4", "writes(1, 1) = 2",
        "paper(127) = 0");
    run("t000;t000;t000;t000;t000;t000;t000;", "paper(127) = 127", "paper(64) = 64");
    run("", "paper(127) = 0");
  }

  private void fridgeOfSixAtMost() {
    run("t000;t000;", "fridge(0, 0) = 1", "fridge(0, 1) = 0", "fridge(99, 0) = 0",
        "fridge(99, 1) = -9", "fridge(100, 0) ! -6", "fridge(-1, 0) ! -4", "row(11) = 1",
        "fridge(0, 0) = 0", "fridge(0, 1) = -9", "fridge(1, 0) = 1", "fridge(1, 1) = 0",
        "row(1) = 2", "fridge(1, 0) = 1", "fridge(1, 1) = 1", "fridge(2, 0) = 1",
        "fridge(2, 1) = 0", "row(0) = 3", "row(0) = 4", "row(0) = 5", "fridge(3, 0) = 8",
        "row(10) = 6", "fridge(4, 0) = 2", "fridge(4, 1) = 0", "fridge(3, 0) = 16",
        "fridge(3, 1) = 1", "fridge(2, 0) = 14", "fridge(2, 1) = 5", "count(10) = 6", "row(0) = 7",
        "fridge(0, 0) ! -3", "count(10) = 7");
    // With two THINGS 0, 1, 10 and 11 are told, all others are none.
    for (int v = 0; v < 100; v++) {
      boolean is = v == 0 || v == 1 || v == 10 || v == 11;
      run("t000;t000;", "row(" + v + ") = 1", "fridge(1, 0) " + (is ? "= 1" : "! -3"));
    }
    run("t000;t000;t000;t000;t000;t000;t000;", "row(16) = 1", "fridge(1, 0) = 1", "row(17) = 2",
        "fridge(1, 0) ! -3");
    run("", "row(0) = 1", "fridge(0, 0) ! -3", "biscuits(0) ! -3");
    // The first two hear each other by bit 0, the last of six by bit 4.
    run("t000;t000;t000;t000;", "row(0) = 1", "row(10) = 2", "row(1) = 3", "row(2) = 4",
        "row(3) = 5", "row(13) = 6", "fridge(6, 0) = 8", "fridge(5, 0) = 16", "fridge(4, 0) = 8",
        "fridge(6, 1) = 0",
        "fridge(5, 1) = 1", "fridge(4, 1) = 17");
  }

  private void rowIsTwelveAtMost() {
    MilkTwice x = new MilkTwice();
    for (int i = 1; i <= 12; i++) {
      check.due("row " + i, x.row(i == 1 ? 99 : 0), i);
    }
    check.due("row, 12 there", x.row(0), -6);
    check.due("clear()", x.clear(), 12);
    check.due("clear() again", x.clear(), 0);
    check.counts("row", x, 10, 0, 0, 0, 0, 0, 0, 1);
    run("", "row(0) = 1", "row(99) = 2", "row(100) ! -6", "row(-1) ! -4", "count(10) = 2",
        "clear() = 2", "clear() = 0");
  }

  private void judgedFromNowToTheLast() {
    run("t001;s011;", "judge(0) = -9", "row(11) = 1", "judge(0) = -9", "count(10) = 0",
        "row(10) = 1", "judge(0) = 0", "count(10) = 0", "row(11) = 1", "row(11) = 2",
        "judge(0) = 1", "row(0) = 1", "judge(1) ! -1", "judge(-1) ! -1", "count(10) = 1");
    for (int last = 0; last < 2; last++) {
      MilkTwice x = Check.told("t001;s011;");
      for (int days = 0; days < 11; days++) {
        x.row(11 - days);
      }
      check.due("row", x.row(last), 12);
      check.due("judge(0), the last " + last, x.judge(0), last == 0 ? -9 : 11);
    }
  }

  private void biscuitsOfSeveralTheLeast() {
    run("t000;t000;t000;", "biscuits(0) = 0", "biscuits(1) = -9", "row(2) = 1", "biscuits(0) = 1",
        "biscuits(1) = 2", "row(0) = 2", "biscuits(0) = 2", "biscuits(1) = 0", "row(2) = 3",
        "biscuits(1) = 2", "count(10) = 3", "biscuits(2) ! -2", "biscuits(-1) ! -2", "row(3) = 4",
        "biscuits(0) ! -3", "biscuits(1) ! -3", "count(10) = 4");
    run("t000;t000;t000;t000;t000;t000;t000;", "row(6) = 1", "biscuits(1) = 6", "row(7) = 2",
        "biscuits(1) ! -3");
  }

  private void lotsOfOneToTwentyWeeks() {
    run("t000;", "lots(1, 0, 0) = 0", "lots(0, 0, 0) ! -4", "lots(21, 0, 0) ! -6",
        "lots(1, 0, 2) ! -2", "lots(20, 0, -1) ! -2", "lots(20, 2147483647, 0) = 0",
        "lots(20, -2147483648, 0) = 0");
    for (int z : new int[] {0, 1, -1, 65535, 65536, Integer.MAX_VALUE, Integer.MIN_VALUE}) {
      int seed = z;
      int pence = 0;
      for (int week = 1; week <= 20; week++) {
        for (int i = 0; i < 14; i++) {
          seed = (int) (seed * 1103515245L + 12345);
          pence += (seed & Integer.MAX_VALUE) / 65536 % 2 * (i % 2 == 0 ? 2 : 3);
        }
        run("t000;t010;", "lots(" + week + ", " + z + ", 1) = " + pence);
      }
    }
    run("", "lots(20, 5, 0) = 0", "lots(20, 5, 1) = 0");
  }

  // ---- III and IV ----

  private void latestOfSeveralTheLeast() {
    run("", "latest() = -9");
    run("t000;t000;", "latest() = -9", "writes(1, 1) = 1", "latest() = 11", "strikes(0, 0) = 2",
        "latest() = 0", "ticks(1, 0) = 2", "latest() = 1", "join() = 1", "latest() = 0",
        "back() = 3", "latest() = 1", "back() = 2", "back() = 1", "back() = 0", "latest() = -9");
  }

  private void monthBelowTheUse() {
    // STOCK 30 is enough for 30 DAYS with USE 1; with 29 on one DAY it is below.
    run("t001;s030;", "month() = 0", "stock(0, 29) = 30", "month() = 2", "stock(0, 0) = 29",
        "month() = 60");
    run("t201;", "month() = 20");
    run("t000;", "month() = 0");
    run("t002;s059;", "month() = 2", "stock(0, 60) = 59", "month() = 0", "stock(0, 58) = 60",
        "month() = 2");
    run("", "month() = 0");
  }

  private void swapOnlyIfLessLacks() {
    run("", "swap() = -9");
    run("t009;", "swap() = -9");
    // 7 DAYS of USE 1 from STOCK 7: nothing lacks; changing USES with one alike helps nobody.
    run("t001;t002;s007;s114;", "swap() = -9");
    run("t001;t002;s014;s107;", "swap() = 1", "thingOf(0, 2) = 1", "thingOf(1, 2) = 2");
    run("t001;t002;s008;s113;", "swap() = -9");
    // Lessened by just one; alike by 0 and 2, and by 1 and 2: the first of them.
    run("t001;t001;t002;s008;s108;s213;", "swap() = -9");
    run("t000;t000;t001;s001;s101;", "swap() = 2", "lacking(7, 0) = 7");
    run("t000;t001;t000;s001;s201;", "swap() = 1");
  }

  private void needsNinetyNineAtMost() {
    run("t009;t003;t000;t401;", "needs(0, 1) = 9", "needs(0, 11) = 99", "needs(0, 12) = -9",
        "needs(0, 30) = -9", "needs(1, 30) = 90", "needs(1, 1) = 3", "needs(2, 30) = 0",
        "needs(3, 1) = 1", "needs(3, 2) = -9", "needs(0, 31) ! -6", "needs(0, 0) ! -4",
        "needs(4, 1) ! -1", "needs(-1, 1) ! -1");
  }

  private void noWasteUpToTwentyPacks() {
    run("t000;", "noWaste(0, 1) = 20", "noWaste(0, 30) = 20", "noWaste(0, 31) ! -6",
        "noWaste(0, 0) ! -4", "noWaste(1, 1) ! -1", "noWaste(-1, 1) ! -1");
    // FRESH, FIGURE 9: STOCK 9 behind the USE stays, 10 does not; a PACK is 2.
    run("t490;s009;", "noWaste(0, 1) = 0", "stock(0, 10) = 9", "noWaste(0, 1) = -9",
        "stock(0, 8) = 10", "noWaste(0, 1) = 0", "stock(0, 7) = 8", "noWaste(0, 1) = 1",
        "noWaste(0, 30) = 1");
    run("t491;s010;", "noWaste(0, 1) = 0", "stock(0, 11) = 10", "noWaste(0, 1) = -9",
        "noWaste(0, 30) = -9");
    // SOUR, FIGURE 9: half of one above is cut to none.
    run("t190;s010;", "noWaste(0, 1) = 0", "stock(0, 11) = 10", "noWaste(0, 1) = -9",
        "stock(0, 8) = 11", "noWaste(0, 1) = 1");
  }

  private void cheapestOfSomeThings() {
    run("t001;t011;t000;", "cheapest(0, 1) = 0", "cheapest(1, 1) = 0", "cheapest(2, 1) = 2",
        "cheapest(3, 1) = 5", "cheapest(4, 1) = -9", "cheapest(7, 1) = -9", "cheapest(3, 20) = 100",
        "cheapest(2, 21) = -9", "cheapest(1, 30) = 0", "cheapest(8, 1) ! -6",
        "cheapest(0, 31) ! -6", "cheapest(-1, 1) ! -4", "cheapest(0, 0) ! -4");
    run("t001;t001;t001;t001;t001;t001;t001;", "cheapest(7, 1) = 14", "cheapest(6, 1) = 12",
        "cheapest(7, 20) = 280", "cheapest(1, 21) = -9", "cheapest(0, 30) = 0");
    run("", "cheapest(0, 30) = 0", "cheapest(1, 1) = -9");
  }

  private void intervalFromOneToThirty() {
    run("", "interval(1) = 30", "interval(9) = 30", "interval(0) ! -4", "interval(10) ! -6");
    run("t001;s028;", "interval(1) = 29", "stock(0, 29) = 28", "interval(1) = 30",
        "stock(0, 27) = 29", "interval(1) = 14", "interval(3) = 30");
    run("t009;", "interval(9) = 1", "interval(8) = -9");
    run("t002;", "interval(2) = 1", "interval(3) = 1", "interval(4) = 2", "interval(1) = -9");
  }

  private void skewByNineAtMost() {
    // LIST 0's CLOCK is 10, LIST 1's is 1: with 9 more they are alike, and LIST 0's holds.
    String tenAndOne = "t000;t000;w10;x01;x01;x01;x01;x01;x01;x01;x01;x00;";
    String tenAndTwo = "t000;t000;x01;w10;x01;x01;x01;x01;x01;x01;x01;x00;";
    run(tenAndOne, "skew(9) = 0", "skew(8) = 0", "skew(-9) = 0", "skew(10) ! -6",
        "skew(-10) ! -4");
    run(tenAndTwo, "skew(9) = 1", "skew(8) = 0", "skew(0) = 0");
    // LIST 1's CLOCK is later by 9: with 9 less they are alike, and LIST 0's holds.
    String oneAndTen = "t000;t000;w00;x01;x01;x01;x01;x01;x01;x01;x01;x10;";
    String oneAndEleven = "t000;t000;w00;x01;x01;x01;x01;x01;x01;x01;x01;x01;x10;";
    run(oneAndTen, "skew(-9) = 1", "skew(-8) = 0", "skew(9) = 0");
    run(oneAndEleven, "skew(-9) = 0");
    // What never was marked: LIST 1's CLOCK would be later, but neither wants it.
    run("t000;", "skew(1) = 0", "skew(9) = 0", "skew(-9) = 0");
    run("", "skew(9) = 0");
  }

  private void closeByNineAtMost() {
    String nineApart = "t000;t000;w10;x01;x01;x01;x01;x01;x01;x01;x01;x00;";
    String tenApart = "t000;t000;w10;x01;x01;x01;x01;x01;x01;x01;x01;x01;x00;";
    run(nineApart, "close(9) = 3", "close(8) = 0", "close(0) = 0", "close(10) ! -6",
        "close(-1) ! -4");
    run(tenApart, "close(9) = 0");
    run("t000;t000;t000;w11;x02;", "close(0) = 0", "close(1) = 2", "close(2) = 6", "close(9) = 6",
        "join() = 1", "close(0) = 6", "close(9) = 6");
    run("", "close(9) = 0");
  }

  private void worthAndWeeklyByPacks() {
    // PRICE 2, PACK 3: cut for what there is, up for what is used.
    run("t201;s099;", "worth() = 66", "stock(0, 2) = 99", "worth() = 1", "stock(0, 1) = 2",
        "worth() = 0", "stock(0, 3) = 1", "worth() = 2", "weekly() = 6");
    run("t203;", "weekly() = 14");
    run("t202;", "weekly() = 10");
    run("t101;s001;", "worth() = 0", "stock(0, 2) = 1", "worth() = 1", "weekly() = 4");
    run("t102;", "weekly() = 7");
    run("t509;t000;", "weekly() = 11", "worth() = 0");
    run("t506;", "weekly() = 7");
    run("t399;s099;", "worth() = 5445", "weekly() = 3465");
    // Cut of each THING, not of all together.
    run("t101;t101;s001;s101;", "worth() = 0");
    run("", "worth() = 0", "weekly() = 0");
  }

  private void countOfNoOtherWhat() {
    run("", "count(-1) = -9", "count(18) = -9", "count(-2147483648) = -9", "count(2147483647) = -9",
        "count(0) = 0", "count(17) = 0");
    run("t000;s099;t000;s199;w00;w10;w11;", "count(7) = 198", "count(8) = 3", "count(0) = 2",
        "count(1) = 3");
  }

  public static void main(String[] args) {
    EdgesTest test = new EdgesTest();
    test.thingsAreSevenAtMost();
    test.pricesAreCut();
    test.lostIsWhatIsAboveTheFigure();
    test.stockIsNinetyNineAtMost();
    test.lettersAreNinetySixAtMost();
    test.eachLetterOfAStatement();
    test.statementsThatAreNotAsTheyMustBe();
    test.withAFaultNothingComes();
    test.daysAndNowAreNineHundredNinetyNineAtMost();
    test.joinedByEachRule();
    test.backIsEightAtMost();
    test.imageIsAllOfI();
    test.bestRuleOfSeveralTheLeast();
    test.daysOnAreSixtyAtMost();
    test.runsOutFromTheFirstToTheSixtieth();
    test.buyForByTwentyPacksAtMost();
    test.orderWithJustEnoughPence();
    test.unheardByTenths();
    test.gameWithHarmsThatAreAlike();
    test.allOfSeveralTheLeast();
    test.flourFromNothingToTheMost();
    test.sureFromTwoToNinetyNine();
    test.barsJustAboveTheCost();
    test.alikeNoMoreThanOneApart();
    test.turnsBelowTwiceTheUse();
    test.paperOfThingsThereAre();
    test.fridgeOfSixAtMost();
    test.rowIsTwelveAtMost();
    test.judgedFromNowToTheLast();
    test.biscuitsOfSeveralTheLeast();
    test.lotsOfOneToTwentyWeeks();
    test.latestOfSeveralTheLeast();
    test.monthBelowTheUse();
    test.swapOnlyIfLessLacks();
    test.needsNinetyNineAtMost();
    test.noWasteUpToTwentyPacks();
    test.cheapestOfSomeThings();
    test.intervalFromOneToThirty();
    test.skewByNineAtMost();
    test.closeByNineAtMost();
    test.worthAndWeeklyByPacks();
    test.countOfNoOtherWhat();
    test.check.end();
  }
}

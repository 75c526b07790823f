/** Promises 1 to 14 and 52 to 54: the house, what is told of it, taken back and kept in an image. */
public final class HouseTest {
  private final Check check = new Check();

  private void due(String call, long answer, long want) {
    check.due(call, answer, want);
  }

  private void promise1NewObject() {
    MilkTwice x = new MilkTwice();
    check.counts("new", x, 0, 0, 0, 0, 0, 0, 0, 0, 0, 0, 0, 0, 0, 0, 0, 0, 0, 0, 0);
    due("1 thingOf(0, 0)", x.thingOf(0, 0), -1);
    due("1 lineOf(0, 0, 0)", x.lineOf(0, 0, 0), -1);
    due("1 restore()", x.restore(), -3);
  }

  private void promise2Feed() {
    MilkTwice x = new MilkTwice();
    due("2 feed(0)", x.feed(0), 1);
    due("2 feed(255)", x.feed(255), 2);
    due("2 feed(-1)", x.feed(-1), -4);
    due("2 feed(256)", x.feed(256), -6);
    for (int i = 3; i <= 96; i++) {
      due("2 feed", x.feed('j'), i);
    }
    due("2 feed, 96 there", x.feed('j'), -6);
    due("2 feed(-1), 96 there", x.feed(-1), -4);
    check.counts("2", x, 9, 96, 0, 0, 0, 0, 2, 0, 2);
    due("2 house()", x.house(), -1000);
    due("2 feed again", x.feed('j'), 1);
  }

  private void fault(MilkTwice x, String text, int want) {
    due("3 house() of " + text, Check.tell(x, text), want);
  }

  private void promise3FaultsOfKind1() {
    MilkTwice x = new MilkTwice();
    fault(x, "", -1000);
    fault(x, "q", -1000);
    fault(x, ";", -1000);
    fault(x, "T031;", -1000);
    fault(x, "j", -1001);
    fault(x, "jj", -1001);
    fault(x, "j0;", -1001);
    fault(x, "r;", -1001);
    fault(x, "d12;", -1002);
    fault(x, "w0;", -1002);
    fault(x, "k00", -1003);
    fault(x, "x0000;", -1003);
    fault(x, "t03", -1003);
    fault(x, "t03;", -1003);
    fault(x, "t031", -1004);
    fault(x, "s00;", -1003);
    fault(x, "s/00;", -1001);
    fault(x, "s:00;", -1001);
    fault(x, "t031;;", -1005);
    fault(x, "t031; j;", -1005);
    fault(x, "t931;x", -1006);
    fault(x, "w99;r9;y", -1007);
    check.counts("3, nothing came", x, 0, 0, 0, 0, 0, 0, 0, 0, 0, 0, 0, 0, 0, 0, 0, 0, 0, 0, 0);
  }

  private void promise3FaultsOfKind2() {
    MilkTwice x = new MilkTwice();
    fault(x, "t631;", -2000);
    fault(x, "t599;t600;t600;", -2005);
    fault(x, "w00;", -2000);
    fault(x, "t031;w20;", -2005);
    fault(x, "t031;k01;", -2005);
    fault(x, "t031;j;x19;", -2007);
    fault(x, "s000;", -2000);
    fault(x, "t031;s000;s101;", -2010);
    fault(x, "r3;r4;", -2003);
    fault(x, "t000;t000;t000;t000;t000;t000;t000;t000;", -2035);
    check.counts("3, nothing came", x, 0, 0, 0, 0, 0, 0, 0, 0, 0, 0, 0, 0, 0, 0, 0, 0, 0, 0, 0);
    fault(x, "t000;t000;t000;t000;t000;t000;t000;", 7);
    fault(x, "t000;", -2000);
    due("3 count(0)", x.count(0), 7);
  }

  private void promise3House() {
    MilkTwice x = new MilkTwice();
    fault(x, "j;", 1);
    fault(x, "t032;t221;w00;k00;k11;w11;x10;s142;r2;d1;", 10);
    check.counts("3", x, 0, 2, 5, 1, 2, 9, 1, 0, 41, 1, 0);
    due("3 lineOf(0, 0, 1)", x.lineOf(0, 0, 1), 2);
    due("3 lineOf(1, 0, 1)", x.lineOf(1, 0, 1), 5);
    due("3 lineOf(1, 1, 0)", x.lineOf(1, 1, 0), 1);
    fault(x, "w01;r1;j;x00;", 4);
    due("3 apart(), joined", x.apart(), 0);
    due("3 lineOf(1, 0, 1), joined", x.lineOf(1, 0, 1), 5);
    due("3 lineOf(0, 1, 0)", x.lineOf(0, 1, 0), 1);
    MilkTwice y = Check.told("t000;w00;j;");
    due("3 lineOf(1, 0, 0), joined", y.lineOf(1, 0, 0), 1);
    due("3 lineOf(1, 0, 1), joined", y.lineOf(1, 0, 1), 1);
    fault(x, "s000;d2;", 2);
    check.counts("3", x, 2, 3, 1, 9, 5, 0, 39);
    fault(x, "w00;d1;w07;", -2007);
    check.counts("3, as it was", x, 0, 2, 7, 3, 1, 9, 5, 0, 39, 2, 0);
  }

  private void promise3ManyDays() {
    MilkTwice x = Check.told("t001;");
    for (int i = 0; i < 3; i++) {
      fault(x, "d9;d9;d9;d9;d9;d9;d9;d9;d9;d9;d9;d9;d9;d9;d9;d9;"
          + "d9;d9;d9;d9;d9;d9;d9;d9;d9;d9;d9;d9;d9;d9;d9;d9;", 32);
    }
    fault(x, "d9;d9;d9;d9;d9;d9;d9;d9;d9;d9;d9;d9;d9;d9;d8;", 15);
    due("3 count(2)", x.count(2), 998);
    fault(x, "j;d2;", -2002);
    fault(x, "d1;d0;", 2);
    fault(x, "d0;d1;", -2003);
    check.counts("3", x, 2, 999, 0, 0, 999);
    due("13 day()", x.day(), -6);
    check.counts("13", x, 14, 0, 0, 1, 0);
  }

  private void thing(MilkTwice x, int thing, int... wants) {
    for (int what = 0; what < wants.length; what++) {
      due("4 thingOf(" + thing + ", " + what + ")", x.thingOf(thing, what), wants[what]);
    }
  }

  private void promise4ThingOf() {
    MilkTwice x = Check.cupboard();
    x.stock(4, 9);
    x.stock(5, 99);
    thing(x, 0, 0, 3, 2, 5, 5, 1, 0, 6, 5);
    thing(x, 1, 1, 4, 3, 19, 3, 2, 7, 9, 6);
    thing(x, 2, 2, 2, 1, 3, 4, 3, 0, 3, 0);
    thing(x, 3, 3, 3, 1, 0, 25, 1, 0, 3, 12);
    thing(x, 4, 4, 3, 4, 9, 5, 2, 6, 12, 10);
    thing(x, 5, 5, 1, 2, 99, 2, 6, 0, 6, 1);
    x.stock(1, 4);
    x.stock(4, 2);
    due("4 thingOf(1, 6)", x.thingOf(1, 6), 0);
    due("4 thingOf(4, 6)", x.thingOf(4, 6), 0);
    MilkTwice y = Check.told("t090;t190;t290;t390;t490;t590;");
    int[] prices = {11, 5, 11, 55, 8, 10};
    int[] harms = {11, 10, 0, 27, 16, 1};
    for (int thing = 0; thing < 6; thing++) {
      due("4 price, figure 9", y.thingOf(thing, 4), prices[thing]);
      due("4 harm of two, figure 9", y.thingOf(thing, 8), harms[thing]);
      due("4 harm of none, use 0", y.thingOf(thing, 7), 0);
    }
    due("4 thingOf(6, 9)", x.thingOf(6, 9), -1);
    due("4 thingOf(-1, 0)", x.thingOf(-1, 0), -1);
    due("4 thingOf(5, 9)", x.thingOf(5, 9), -2);
    due("4 thingOf(0, -1)", x.thingOf(0, -1), -2);
    check.counts("4", x, 11, 2, 2);
  }

  private void promise5Thing() {
    MilkTwice x = new MilkTwice();
    due("5 thing(-1, -1, 10)", x.thing(-1, -1, 10), -2);
    due("5 thing(6, 0, 0)", x.thing(6, 0, 0), -2);
    due("5 thing(0, -1, 10)", x.thing(0, -1, 10), -4);
    due("5 thing(0, 10, -1)", x.thing(0, 10, -1), -4);
    due("5 thing(0, 10, 0)", x.thing(0, 10, 0), -6);
    due("5 thing(0, 0, 10)", x.thing(0, 0, 10), -6);
    due("5 count(0)", x.count(0), 0);
    for (int i = 0; i < 7; i++) {
      due("5 thing", x.thing(i % 6, 9, 9), i);
    }
    thing(x, 5, 5, 9, 9, 0);
    due("5 lineOf(1, 5, 1)", x.lineOf(1, 5, 1), 0);
    due("5 thing, 7 there", x.thing(0, 0, 0), -6);
    due("5 thing, 7 there, below", x.thing(0, 0, -1), -4);
    due("5 thing, 7 there, kind", x.thing(7, 0, -1), -2);
  }

  private void promise6Stock() {
    MilkTwice x = Check.cupboard();
    due("6 stock(1, 99)", x.stock(1, 99), 19);
    due("6 stock(1, 0)", x.stock(1, 0), 99);
    due("6 stock(6, -1)", x.stock(6, -1), -1);
    due("6 stock(-1, 0)", x.stock(-1, 0), -1);
    due("6 stock(1, -1)", x.stock(1, -1), -4);
    due("6 stock(1, 100)", x.stock(1, 100), -6);
    due("6 thingOf(1, 3)", x.thingOf(1, 3), 0);
  }

  private void promise7LineOf() {
    MilkTwice x = Check.lists();
    due("7 lineOf(0, 2, 0)", x.lineOf(0, 2, 0), 1);
    due("7 lineOf(1, 2, 0)", x.lineOf(1, 2, 0), 0);
    due("7 lineOf(0, 4, 1)", x.lineOf(0, 4, 1), 12);
    due("7 lineOf(1, 4, 1)", x.lineOf(1, 4, 1), 11);
    due("7 lineOf(0, 6, 1)", x.lineOf(0, 6, 1), 0);
    due("7 lineOf(2, 0, 2)", x.lineOf(2, 0, 2), -1);
    due("7 lineOf(-1, 0, 0)", x.lineOf(-1, 0, 0), -1);
    due("7 lineOf(0, 7, 0)", x.lineOf(0, 7, 0), -1);
    due("7 lineOf(0, -1, 0)", x.lineOf(0, -1, 0), -1);
    due("7 lineOf(0, 0, 2)", x.lineOf(0, 0, 2), -2);
    due("7 lineOf(0, 0, -1)", x.lineOf(0, 0, -1), -2);
  }

  private void promises8To10Marks() {
    MilkTwice x = Check.cupboard();
    due("8 writes(0, 5)", x.writes(0, 5), 1);
    due("8 writes(1, 5)", x.writes(1, 5), 2);
    due("8 lineOf(0, 5, 0)", x.lineOf(0, 5, 0), 1);
    due("9 ticks(0, 5)", x.ticks(0, 5), 2);
    due("9 ticks(0, 3)", x.ticks(0, 3), 27);
    due("9 lineOf(0, 5, 0)", x.lineOf(0, 5, 0), 0);
    due("9 lineOf(0, 5, 1)", x.lineOf(0, 5, 1), 3);
    due("9 lineOf(1, 5, 0)", x.lineOf(1, 5, 0), 1);
    due("9 thingOf(5, 3)", x.thingOf(5, 3), 6);
    due("10 strikes(1, 5)", x.strikes(1, 5), 5);
    due("10 lineOf(1, 5, 0)", x.lineOf(1, 5, 0), 0);
    due("10 lineOf(1, 5, 1)", x.lineOf(1, 5, 1), 5);
    check.counts("10", x, 4, 27, 0, 0, 36, 0);
    x.stock(5, 95);
    due("9 ticks(1, 5)", x.ticks(1, 5), 29);
    due("9 thingOf(5, 3)", x.thingOf(5, 3), 99);
    due("8 writes(2, 0)", x.writes(2, 0), -1);
    due("8 writes(0, 6)", x.writes(0, 6), -1);
    due("9 ticks(-1, 0)", x.ticks(-1, 0), -1);
    due("9 ticks(0, -1)", x.ticks(0, -1), -1);
    due("10 strikes(2, 0)", x.strikes(2, 0), -1);
    due("10 strikes(0, 6)", x.strikes(0, 6), -1);
    check.counts("10", x, 1, 6);
    check.counts("10", x, 11, 6);
  }

  /** NOW 999 is further than 512 calls reach: the document leaves it free, the class keeps to it. */
  private void promises8To10Room() {
    MilkTwice x = Check.told("t000;");
    for (int i = 1; i <= 999; i++) {
      due("8 writes(0, 0)", x.writes(0, 0), i);
    }
    due("8 writes(0, 0), NOW 999", x.writes(0, 0), -6);
    due("9 ticks(0, 0), NOW 999", x.ticks(0, 0), -6);
    due("10 strikes(0, 0), NOW 999", x.strikes(0, 0), -6);
    due("10 strikes(0, 1), NOW 999", x.strikes(0, 1), -1);
    due("3 house(), NOW 999", Check.tell(x, "j;k00;"), -2002);
    check.counts("10", x, 1, 999, 0, 0, 0);
  }

  private void promise11Rule() {
    MilkTwice x = new MilkTwice();
    due("11 rule(3)", x.rule(3), 0);
    due("11 rule(4)", x.rule(4), -2);
    due("11 rule(-1)", x.rule(-1), -2);
    due("11 rule(0)", x.rule(0), 3);
    check.counts("11", x, 12, 2);
  }

  private void joins(int rule, int changed, int bits) {
    MilkTwice x = Check.lists();
    x.writes(0, 6);
    x.rule(rule);
    due("12 join() by " + rule, x.join(), changed);
    due("12 apart()", x.apart(), 0);
    due("12 twice() by " + rule, x.twice(), bits);
    int[] clocks = {4, 3, 6, 9, 12, 0, 13};
    for (int thing = 0; thing < 7; thing++) {
      due("12 lineOf(0, " + thing + ", 1)", x.lineOf(0, thing, 1), clocks[thing]);
      due("12 lineOf(1, " + thing + ", 1)", x.lineOf(1, thing, 1), clocks[thing]);
    }
    due("12 count(1)", x.count(1), 13);
    due("12 join() again", x.join(), 0);
  }

  private void promise12Join() {
    joins(0, 6, 2 + 64);
    joins(1, 6, 31 + 64);
    joins(2, 6, 0);
    joins(3, 6, 31 + 64);
    MilkTwice x = Check.told("t000;t000;r3;w00;x01;x01;x10;w01;w01;w11;x11;");
    due("12 join(), CLOCKS 3 and 2 apart", x.join(), 2);
    due("12 twice()", x.twice(), 2);
    MilkTwice y = Check.told("t000;t000;t000;w10;w11;w12;x12;r1;");
    due("12 join(), LIST 0 alone changes", y.join(), 2);
    due("12 count(8)", y.count(8), 4);
  }

  private void promise13Day() {
    MilkTwice x = Check.cupboard();
    due("13 day()", x.day(), 5);
    int[] stocks = {3, 10, 2, 0, 0, 0};
    for (int thing = 0; thing < 6; thing++) {
      due("13 thingOf(" + thing + ", 3)", x.thingOf(thing, 3), stocks[thing]);
    }
    check.counts("13", x, 1, 0, 1, 0, 0, 5, 6, 15);
    due("13 day()", x.day(), 7);
    check.counts("13", x, 1, 0, 2, 0, 0, 12, 7, 8);
  }

  private void promise14Back() {
    MilkTwice x = Check.cupboard();
    due("14 back(), a HOUSE came", x.back(), -3);
    x.writes(0, 1);
    x.ticks(1, 5);
    x.strikes(0, 0);
    x.join();
    x.day();
    x.stock(2, 50);
    check.counts("14", x, 17, 6);
    due("14 back()", x.back(), 5);
    due("14 thingOf(2, 3)", x.thingOf(2, 3), 2);
    due("14 back()", x.back(), 4);
    check.counts("14, day", x, 1, 3, 0, 0, 2, 0, 0, 35);
    due("14 lineOf(1, 1, 0)", x.lineOf(1, 1, 0), 1);
    due("14 back()", x.back(), 3);
    due("14 lineOf(1, 1, 0)", x.lineOf(1, 1, 0), 0);
    due("14 lineOf(1, 1, 1)", x.lineOf(1, 1, 1), 0);
    due("14 back()", x.back(), 2);
    due("14 lineOf(0, 0, 1)", x.lineOf(0, 0, 1), 0);
    due("14 back()", x.back(), 1);
    check.counts("14, tick", x, 1, 1, 0, 0, 0, 0, 0, 29, 1);
    due("14 back()", x.back(), 0);
    check.counts("14, write", x, 1, 0, 0, 0, 0, 0, 0, 29, 0);
    due("14 back()", x.back(), -3);
    check.counts("14", x, 13, 2);
  }

  private void promise14EightAtMost() {
    MilkTwice x = Check.cupboard();
    for (int i = 0; i < 11; i++) {
      x.strikes(0, 0);
      due("14 count(17)", x.count(17), Math.min(8, i + 1));
    }
    for (int i = 7; i >= 0; i--) {
      due("14 back()", x.back(), i);
    }
    due("14 back()", x.back(), -3);
    due("14 count(1)", x.count(1), 3);
    x.writes(0, 0);
    x.stock(9, 0);
    x.stock(0, 100);
    x.ticks(0, 9);
    x.thing(9, 0, 0);
    x.rule(9);
    x.restore();
    x.image();
    Check.tell(x, "w00;j");
    Check.tell(x, "w99;");
    check.counts("14, still", x, 17, 1);
    x.stock(0, 5);
    x.join();
    check.counts("14, also if all stays", x, 17, 3);
    x.rule(0);
    check.counts("14, rule()", x, 17, 0);
    x.day();
    x.thing(0, 0, 0);
    check.counts("14, thing()", x, 17, 0);
    x.day();
    Check.tell(x, "j;");
    check.counts("14, house()", x, 17, 0);
    x.day();
    x.restore();
    check.counts("14, restore()", x, 17, 0);
  }

  private void promises52And53Image() {
    MilkTwice x = Check.cupboard();
    due("53 restore()", x.restore(), -3);
    x.writes(0, 3);
    x.ticks(1, 5);
    x.day();
    due("52 image()", x.image(), 2);
    check.counts("52, stays", x, 17, 3);
    x.strikes(0, 3);
    x.day();
    x.stock(0, 77);
    x.rule(2);
    x.thing(0, 1, 1);
    x.row(5);
    x.feed('j');
    x.stock(99, 0);
    due("53 restore()", x.restore(), 2);
    check.counts("53", x, 0, 6, 2, 1, 0, 2, 3, 6, 19, 1, 1, 1, 1, 0, 1, 0, 0, 0, 0);
    due("53 lineOf(0, 3, 0)", x.lineOf(0, 3, 0), 1);
    due("53 lineOf(0, 3, 1)", x.lineOf(0, 3, 1), 1);
    x.writes(1, 1);
    due("53 restore() again", x.restore(), 2);
    due("53 lineOf(1, 1, 1)", x.lineOf(1, 1, 1), 0);
    x.writes(1, 1);
    due("52 image() again", x.image(), 3);
    x.writes(1, 1);
    due("53 restore()", x.restore(), 3);
  }

  private void promise54Count() {
    MilkTwice x = new MilkTwice();
    due("54 count(-1)", x.count(-1), -9);
    due("54 count(18)", x.count(18), -9);
    check.counts("54", x, 11, 0, 0, 0, 0, 0, 0);
    x.thing(9, 0, 0);
    x.back();
    x.restore();
    x.feed(-1);
    x.feed(-2);
    x.feed(-3);
    x.feed(300);
    x.flour(-1, 0, 0, 0);
    x.sure(2, 2, 0);
    for (int i = 0; i < 7; i++) {
      x.game(0);
    }
    check.counts("54", x, 11, 7, 2, 2, 4, 0, 1);
    MilkTwice y = Check.told("t032;t221;s009;s190;w00;w01;w11;k11;d1;r3;");
    y.row(7);
    y.feed('j');
    y.day();
    check.counts("54", y, 0, 2, 4, 2, 3, 4, 0, 0, 96, 2, 1, 1, 0, 0, 0, 0, 0, 0, 1);
  }

  public static void main(String[] args) {
    HouseTest test = new HouseTest();
    test.promise1NewObject();
    test.promise2Feed();
    test.promise3FaultsOfKind1();
    test.promise3FaultsOfKind2();
    test.promise3House();
    test.promise3ManyDays();
    test.promise4ThingOf();
    test.promise5Thing();
    test.promise6Stock();
    test.promise7LineOf();
    test.promises8To10Marks();
    test.promises8To10Room();
    test.promise11Rule();
    test.promise12Join();
    test.promise13Day();
    test.promise14Back();
    test.promise14EightAtMost();
    test.promises52And53Image();
    test.promise54Count();
    test.check.end();
  }
}

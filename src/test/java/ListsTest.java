/** Promises 15 to 17, 32 to 35, 42, 43, 45 and 48 to 50: what the LISTS and the ROW tell. */
public final class ListsTest {
  private final Check check = new Check();

  private void due(String call, long answer, long want) {
    check.due(call, answer, want);
  }

  private static void rows(MilkTwice x, int... numbers) {
    for (int v : numbers) {
      x.row(v);
    }
  }

  private void promises15And35ApartAndTwice() {
    MilkTwice x = Check.lists();
    due("15 apart()", x.apart(), 31);
    due("35 twice()", x.twice(), 0);
    x.writes(0, 0);
    x.writes(1, 6);
    x.writes(0, 6);
    due("15 apart()", x.apart(), 30);
    due("35 twice()", x.twice(), 65);
    due("15 apart() of none", new MilkTwice().apart(), 0);
    due("35 twice() of none", new MilkTwice().twice(), 0);
  }

  private void promise16Joined() {
    MilkTwice x = Check.lists();
    int[][] due = {{2, 0, 0}, {31, 0, 29}, {0, 2, 0}, {31, 0, 29}};
    for (int rule = 0; rule < 4; rule++) {
      for (int what = 0; what < 3; what++) {
        due("16 joined(" + rule + ", " + what + ")", x.joined(rule, what), due[rule][what]);
      }
    }
    due("16 apart()", x.apart(), 31);
    MilkTwice y = Check.told("t000;t000;t000;w00;w01;x01;x10;w11;w12;x02;");
    due("16 joined(3, 0), 3 apart", y.joined(3, 0), 6);
    due("16 joined(0, 0)", y.joined(0, 0), 2);
    due("16 joined(2, 1)", y.joined(2, 1), 2);
    due("16 joined(3, 2), 1 apart", y.joined(3, 2), 4);
    due("16 joined(-1, 0)", x.joined(-1, 0), -2);
    due("16 joined(4, 0)", x.joined(4, 0), -2);
    due("16 joined(0, -1)", x.joined(0, -1), -2);
    due("16 joined(0, 3)", x.joined(0, 3), -2);
  }

  private void promise17BestRule() {
    MilkTwice x = Check.lists();
    due("17 bestRule(0)", x.bestRule(0), 2);
    due("17 bestRule(1)", x.bestRule(1), 1);
    MilkTwice y = Check.told("t000;t000;w01;x00;x00;x11;w00;");
    due("17 bestRule(0), 3 alone harms none", y.bestRule(0), 3);
    due("17 bestRule(1), 3 alone harms none", y.bestRule(1), 0);
    MilkTwice z = Check.told("t000;w00;");
    due("17 bestRule(0), of several", z.bestRule(0), 1);
    due("17 bestRule(1), of several", z.bestRule(1), 0);
    due("17 bestRule(2)", x.bestRule(2), -2);
    due("17 bestRule(-1)", x.bestRule(-1), -2);
  }

  private void promise32Paper() {
    MilkTwice x = Check.told("t000;t000;t000;w00;w11;");
    due("32 paper(127)", x.paper(127), 4);
    due("32 paper(3)", x.paper(3), 0);
    due("32 paper(0)", x.paper(0), 0);
    x.strikes(1, 1);
    due("32 paper(7)", x.paper(7), 6);
    x.strikes(0, 0);
    due("32 paper(5)", x.paper(5), 5);
    due("32 paper(-1)", x.paper(-1), -4);
    due("32 paper(128)", x.paper(128), -6);
  }

  private void fridge(MilkTwice x, int v, int ways, int least) {
    due("33 fridge(" + v + ", 0)", x.fridge(v, 0), ways);
    due("33 fridge(" + v + ", 1)", x.fridge(v, 1), least);
  }

  private void promise33Fridge() {
    MilkTwice x = Check.told("t000;t000;");
    fridge(x, 0, 1, 0);
    fridge(x, 1, 0, -9);
    rows(x, 0, 10);
    fridge(x, 0, 0, -9);
    fridge(x, 1, 1, 1);
    fridge(x, 2, 1, 0);
    x.clear();
    rows(x, 0, 10, 0);
    fridge(x, 1, 2, 1);
    fridge(x, 2, 2, 0);
    x.clear();
    rows(x, 0, 11, 1, 10);
    fridge(x, 2, 4, 2);
    fridge(x, 3, 3, 1);
    fridge(x, 4, 1, 0);
    rows(x, 0, 0);
    fridge(x, 2, 16, 2);
    due("33 count(10), it stays", x.count(10), 6);
    x.row(0);
    due("33 seven in the ROW", x.fridge(2, 0), -3);
    due("33 fridge(-1, 2)", x.fridge(-1, 2), -4);
    due("33 fridge(100, 2)", x.fridge(100, 2), -6);
    due("33 fridge(99, 2)", x.fridge(99, 2), -2);
    due("33 fridge(0, -1)", x.fridge(0, -1), -2);
    x.clear();
    rows(x, 2, 0);
    due("33 fridge(0, 0), 2 first in the ROW", x.fridge(0, 0), -3);
    for (int none : new int[] {2, 9, 12, 20, 99}) {
      x.clear();
      rows(x, 0, none);
      due("33 fridge(0, 0), " + none + " in the ROW", x.fridge(0, 0), -3);
    }
  }

  private void promise34Latest() {
    MilkTwice x = Check.lists();
    due("34 latest()", x.latest(), 40);
    x.strikes(1, 2);
    due("34 latest()", x.latest(), 21);
    x.join();
    due("34 latest(), of several", x.latest(), 20);
    due("34 latest(), CLOCK 1", Check.told("t000;x10;").latest(), 1);
    due("34 latest() of none", new MilkTwice().latest(), -9);
    due("34 latest(), all 0", Check.told("t000;").latest(), -9);
  }

  private void promise42Skew() {
    MilkTwice x = Check.lists();
    int[] ahead = {-9, -4, -3, -2, -1, 0, 1, 2, 3, 9};
    int[] due = {14, 14, 14, 12, 12, 0, 0, 16, 17, 17};
    for (int i = 0; i < ahead.length; i++) {
      due("42 skew(" + ahead[i] + ")", x.skew(ahead[i]), due[i]);
    }
    due("42 skew(-10)", x.skew(-10), -4);
    due("42 skew(10)", x.skew(10), -6);
  }

  private void promise43Close() {
    MilkTwice x = Check.lists();
    int[] due = {0, 28, 29, 31, 31, 31, 31, 31, 31, 31};
    for (int v = 0; v < 10; v++) {
      due("43 close(" + v + ")", x.close(v), due[v]);
    }
    x.join();
    due("43 close(0), joined", x.close(0), 31);
    due("43 close(9), both 0", Check.told("t000;t000;w11;").close(9), 2);
    due("43 close(-1)", x.close(-1), -4);
    due("43 close(10)", x.close(10), -6);
  }

  private void promise45Biscuits() {
    MilkTwice x = Check.told("t000;t000;t000;");
    due("45 biscuits(0) of none", x.biscuits(0), 0);
    due("45 biscuits(1) of none", x.biscuits(1), -9);
    rows(x, 2);
    due("45 biscuits(1) of one", x.biscuits(1), 2);
    rows(x, 1, 1, 2, 0);
    due("45 biscuits(0)", x.biscuits(0), 3);
    due("45 biscuits(1), of several", x.biscuits(1), 1);
    x.row(2);
    due("45 biscuits(1)", x.biscuits(1), 2);
    due("45 count(10), it stays", x.count(10), 6);
    x.row(3);
    due("45 biscuits(0), no THING", x.biscuits(0), -3);
    x.clear();
    rows(x, 3, 0);
    due("45 biscuits(1), no THING first", x.biscuits(1), -3);
    due("45 biscuits(2)", x.biscuits(2), -2);
    due("45 biscuits(-1)", x.biscuits(-1), -2);
  }

  private void promises48And50Row() {
    MilkTwice x = new MilkTwice();
    due("50 clear()", x.clear(), 0);
    due("48 row(-1)", x.row(-1), -4);
    due("48 row(100)", x.row(100), -6);
    for (int i = 1; i <= 12; i++) {
      due("48 row(99)", x.row(99), i);
    }
    due("48 row(0), 12 there", x.row(0), -6);
    due("48 row(-1), 12 there", x.row(-1), -4);
    due("48 count(10)", x.count(10), 12);
    due("50 clear()", x.clear(), 12);
    due("50 count(10)", x.count(10), 0);
    due("48 row(0)", x.row(0), 1);
  }

  private void promise49Judge() {
    MilkTwice x = Check.cupboard();
    due("49 judge(1), no ROW", x.judge(1), -9);
    rows(x, 19, 10, 6, 3, 0, 0);
    due("49 judge(6)", x.judge(6), -1);
    due("49 judge(-1)", x.judge(-1), -1);
    due("49 count(10), it stays", x.count(10), 6);
    due("49 judge(1)", x.judge(1), -9);
    due("49 count(10)", x.count(10), 0);
    rows(x, 19, 10, 5, 3);
    due("49 judge(1)", x.judge(1), 2);
    due("49 count(10)", x.count(10), 0);
    rows(x, 18);
    due("49 judge(1)", x.judge(1), 0);
    due("49 thingOf(1, 3)", x.thingOf(1, 3), 19);
  }

  public static void main(String[] args) {
    ListsTest test = new ListsTest();
    test.promises15And35ApartAndTwice();
    test.promise16Joined();
    test.promise17BestRule();
    test.promise32Paper();
    test.promise33Fridge();
    test.promise34Latest();
    test.promise42Skew();
    test.promise43Close();
    test.promise45Biscuits();
    test.promises48And50Row();
    test.promise49Judge();
    test.check.end();
  }
}

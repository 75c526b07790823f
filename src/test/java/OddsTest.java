/** Promises 24 to 29: what to do without having heard, and how likely it is. */
public final class OddsTest {
  private static final long REFUSED = 4000000000000000000L;
  private final Check check = new Check();

  private void due(String call, long answer, long want) {
    check.due(call, answer, want);
  }

  private void unheard(MilkTwice x, int thing, int a, int b, int... wants) {
    for (int way = 0; way < wants.length; way++) {
      due("24 unheard(" + thing + ", " + a + ", " + b + ", " + way + ")",
          x.unheard(thing, a, b, way), wants[way]);
    }
  }

  private void promise24Unheard() {
    MilkTwice x = Check.cupboard();
    unheard(x, 0, 5, 5, 600, 300, 300, 275, 3);
    unheard(x, 0, 10, 10, 600, 0, 0, 500, 1);
    unheard(x, 0, 0, 10, 600, 600, 0, 0, 2);
    unheard(x, 0, 0, 0, 600, 600, 600, 600, 0);
    unheard(x, 0, 3, 7, 600, 420, 180, 231, 2);
    unheard(x, 2, 10, 10, 300, 0, 0, 0, 1);
    unheard(x, 2, 9, 9, 300, 30, 30, 3, 3);
    unheard(x, 5, 2, 8, 600, 480, 120, 112, 3);
    due("24 unheard(6, -1, 11, 5)", x.unheard(6, -1, 11, 5), -1);
    due("24 unheard(-1, 0, 0, 0)", x.unheard(-1, 0, 0, 0), -1);
    due("24 unheard(0, -1, 11, 5)", x.unheard(0, -1, 11, 5), -4);
    due("24 unheard(0, 11, -1, 5)", x.unheard(0, 11, -1, 5), -4);
    due("24 unheard(0, 11, 0, 5)", x.unheard(0, 11, 0, 5), -6);
    due("24 unheard(0, 0, 11, -1)", x.unheard(0, 0, 11, -1), -6);
    due("24 unheard(0, 0, 0, 5)", x.unheard(0, 0, 0, 5), -2);
    due("24 unheard(0, 0, 0, -1)", x.unheard(0, 0, 0, -1), -2);
  }

  private void promise25Game() {
    MilkTwice x = Check.cupboard();
    int[] pairs = {6, 6, 14, 6, 6, 6};
    for (int thing = 0; thing < 6; thing++) {
      due("25 game(" + thing + ")", x.game(thing), pairs[thing]);
    }
    MilkTwice y = Check.told("t000;t200;");
    due("25 game(0), USE 0", y.game(0), 7);
    due("25 game(1), USE 0", y.game(1), 15);
    due("25 game(6)", x.game(6), -1);
    due("25 game(-1)", x.game(-1), -1);
  }

  private void all(MilkTwice x, int a, int b, int bits, int harm) {
    due("26 all(" + a + ", " + b + ", 0)", x.all(a, b, 0), bits);
    due("26 all(" + a + ", " + b + ", 1)", x.all(a, b, 1), harm);
  }

  private void promise26All() {
    MilkTwice x = Check.cupboard();
    all(x, 5, 5, 0, 1950);
    all(x, 3, 7, 63, 1170);
    all(x, 7, 3, 0, 1170);
    all(x, 10, 10, 0, 0);
    all(x, 0, 0, 0, 3900);
    all(Check.told("t000;t001;t000;t103;"), 9, 10, 10, 0);
    due("26 all(-1, 11, 2)", x.all(-1, 11, 2), -4);
    due("26 all(11, -1, 2)", x.all(11, -1, 2), -4);
    due("26 all(11, 0, 2)", x.all(11, 0, 2), -6);
    due("26 all(0, 11, 2)", x.all(0, 11, 2), -6);
    due("26 all(0, 0, 2)", x.all(0, 0, 2), -2);
    due("26 all(0, 0, -1)", x.all(0, 0, -1), -2);
  }

  private void flour(MilkTwice x, int s, int n, int u, long above, long below) {
    due("27 flour(" + s + ", " + n + ", " + u + ", 0)", x.flour(s, n, u, 0), above);
    due("27 flour(" + s + ", " + n + ", " + u + ", 1)", x.flour(s, n, u, 1), below);
  }

  private void promise27Flour() {
    MilkTwice x = new MilkTwice();
    flour(x, 2, 2, 5, 3, 4);
    flour(x, 1, 1, 3, 7, 10);
    flour(x, 1, 12, 1, 282429536481L, 1000000000000L);
    flour(x, 3, 2, 10, 1, 1);
    flour(x, 2, 2, 10, 0, 1);
    flour(x, 0, 0, 0, 0, 1);
    flour(x, 0, 12, 5, 0, 1);
    flour(x, 1, 0, 10, 1, 1);
    flour(x, 9, 12, 0, 1, 1);
    flour(x, 9, 12, 5, 3797, 4096);
    flour(x, 2, 3, 2, 112, 125);
    due("27 flour(-1, 13, 11, 2)", x.flour(-1, 13, 11, 2), REFUSED + 4);
    due("27 flour(10, -1, 0, 0)", x.flour(10, -1, 0, 0), REFUSED + 4);
    due("27 flour(10, 0, -1, 0)", x.flour(10, 0, -1, 0), REFUSED + 4);
    due("27 flour(10, 0, 0, 2)", x.flour(10, 0, 0, 2), REFUSED + 6);
    due("27 flour(0, 13, 0, 0)", x.flour(0, 13, 0, 0), REFUSED + 6);
    due("27 flour(0, 0, 11, 0)", x.flour(0, 0, 11, 0), REFUSED + 6);
    due("27 flour(0, 0, 0, 2)", x.flour(0, 0, 0, 2), REFUSED + 2);
    due("27 flour(0, 0, 0, -1)", x.flour(0, 0, 0, -1), REFUSED + 2);
    check.counts("27", x, 11, 0, 2, 0, 3, 0, 3);
  }

  private void sure(MilkTwice x, int f, int seen, long above, long below) {
    due("28 sure(" + f + ", " + seen + ", 0)", x.sure(f, seen, 0), above);
    due("28 sure(" + f + ", " + seen + ", 1)", x.sure(f, seen, 1), below);
  }

  private void promise28Sure() {
    MilkTwice x = new MilkTwice();
    sure(x, 2, 1, 9, 10);
    sure(x, 2, 0, 1, 10);
    sure(x, 10, 1, 81, 82);
    sure(x, 10, 0, 1, 2);
    sure(x, 99, 1, 882, 883);
    sure(x, 99, 0, 98, 107);
    sure(x, 4, 0, 1, 4);
    due("28 sure(1, 2, 2)", x.sure(1, 2, 2), REFUSED + 4);
    due("28 sure(100, 2, 2)", x.sure(100, 2, 2), REFUSED + 6);
    due("28 sure(2, 2, 0)", x.sure(2, 2, 0), REFUSED + 2);
    due("28 sure(2, -1, 0)", x.sure(2, -1, 0), REFUSED + 2);
    due("28 sure(2, 0, 2)", x.sure(2, 0, 2), REFUSED + 2);
    due("28 sure(2, 0, -1)", x.sure(2, 0, -1), REFUSED + 2);
    check.counts("28", x, 11, 0, 4, 0, 1, 0, 1);
  }

  private void promise29Bars() {
    MilkTwice x = new MilkTwice();
    due("29 bars(2, 1, 3)", x.bars(2, 1, 3), 0);
    due("29 bars(2, 1, 4)", x.bars(2, 1, 4), 60);
    due("29 bars(10, 9, 99)", x.bars(10, 9, 99), 0);
    due("29 bars(9, 9, 99)", x.bars(9, 9, 99), 60);
    due("29 bars(20, 4, 99)", x.bars(20, 4, 99), 0);
    due("29 bars(20, 3, 99)", x.bars(20, 3, 99), 60);
    due("29 bars(2, 1, 0)", x.bars(2, 1, 0), 0);
    due("29 bars(1, 10, 100)", x.bars(1, 10, 100), -4);
    due("29 bars(21, 0, 0)", x.bars(21, 0, 0), -4);
    due("29 bars(21, 1, -1)", x.bars(21, 1, -1), -4);
    due("29 bars(0, 1, 0)", x.bars(0, 1, 0), -4);
    due("29 bars(21, 1, 0)", x.bars(21, 1, 0), -6);
    due("29 bars(2, 10, 0)", x.bars(2, 10, 0), -6);
    due("29 bars(2, 1, 100)", x.bars(2, 1, 100), -6);
  }

  public static void main(String[] args) {
    OddsTest test = new OddsTest();
    test.promise24Unheard();
    test.promise25Game();
    test.promise26All();
    test.promise27Flour();
    test.promise28Sure();
    test.promise29Bars();
    test.check.end();
  }
}

/** Counts the calls whose answer is not the one that is due, and makes objects to call. */
final class Check {
  private int wrong;

  void due(String call, long answer, long want) {
    if (answer != want) {
      wrong++;
      System.out.println(call + " answered " + answer + ", due is " + want);
    }
  }

  /** The answers that count() is to give, from a number on. */
  void counts(String when, MilkTwice x, int from, int... wants) {
    for (int i = 0; i < wants.length; i++) {
      due(when + ": count(" + (from + i) + ")", x.count(from + i), wants[i]);
    }
  }

  void end() {
    System.out.println(wrong == 0 ? "all answers are as due" : wrong + " answers are not as due");
    if (wrong != 0) {
      System.exit(1);
    }
  }

  static void feedAll(MilkTwice x, String text) {
    for (int i = 0; i < text.length(); i++) {
      x.feed(text.charAt(i));
    }
  }

  static int tell(MilkTwice x, String text) {
    feedAll(x, text);
    return x.house();
  }

  static MilkTwice told(String text) {
    MilkTwice x = new MilkTwice();
    tell(x, text);
    return x;
  }

  /** A THING of each KIND, with STOCK 5, 19, 3, 0, 2, 0. */
  static MilkTwice cupboard() {
    return told("t032;t143;t221;t331;t434;t512;s005;s119;s203;s402;");
  }

  /**
   * Seven THINGS of KIND 0, five of them with LINES that are apart: LIST 0 wants 2 and 3, LIST 1
   * wants 0, 1 and 4; the CLOCKS are 4 2, 0 3, 5 6, 8 9, 12 11.
   */
  static MilkTwice lists() {
    MilkTwice x = told("t000;t000;t000;t000;t000;t000;t000;");
    tell(x, "w00;w10;w11;k00;w02;x12;w13;w03;k13;w04;w14;x04;");
    return x;
  }
}

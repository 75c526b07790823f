import java.lang.reflect.Method;
import java.lang.reflect.Modifier;
import java.util.ArrayList;
import java.util.Arrays;
import java.util.Comparator;
import java.util.List;

/**
 * Runs of calls by lot (the same ones each time) on the class and on PlainModel: every answer is
 * to be the same, and nothing may throw, whatever the arguments are.
 */
public final class RandomRunsTest {
  private static final int RUNS = 1500;
  private static final int CALLS = 400;
  private static final String[] STATEMENTS = {"t", "w", "w", "k", "x", "x", "j", "r", "d", "s", "s"};

  private final List<Method> calls = new ArrayList<>();
  private final List<Method> models = new ArrayList<>();
  private long seed;
  private int wrong;

  private RandomRunsTest() throws NoSuchMethodException {
    for (Method m : MilkTwice.class.getDeclaredMethods()) {
      if (Modifier.isPublic(m.getModifiers())) {
        calls.add(m);
      }
    }
    calls.sort(Comparator.comparing(Method::getName));
    for (Method m : calls) {
      models.add(PlainModel.class.getMethod(m.getName(), m.getParameterTypes()));
    }
  }

  private int below(int n) {
    seed = seed * 6364136223846793005L + 1442695040888963407L;
    return (int) ((seed >>> 33) % n);
  }

  private int argument(boolean wild) {
    switch (below(wild ? 6 : 12)) {
      case 0:
        return below(4) == 0 ? Integer.MIN_VALUE + below(3) : -1 - below(12);
      case 1:
        return below(4) == 0 ? Integer.MAX_VALUE - below(3) : 90 + below(40);
      case 2:
        return below(64);
      case 3:
        return below(100);
      case 4:
        return 5 + below(8);
      default:
        return below(5);
    }
  }

  private Object[] arguments(Method m, boolean wild) {
    Object[] arguments = new Object[m.getParameterCount()];
    for (int i = 0; i < arguments.length; i++) {
      arguments[i] = argument(wild);
    }
    return arguments;
  }

  private String text(int statements) {
    StringBuilder text = new StringBuilder();
    for (int i = 0; i < statements; i++) {
      String s = STATEMENTS[below(STATEMENTS.length)];
      text.append(s);
      int digits = "j".equals(s) ? 0 : "rd".contains(s) ? 1 : "wkx".contains(s) ? 2 : 3;
      for (int j = 0; j < digits; j++) {
        int most = j == 0 && "wkxr".contains(s) ? 2 : j <= 1 && !"d".equals(s) ? 5 : 10;
        text.append((char) ('0' + below(below(20) == 0 ? 10 : most)));
      }
      text.append(';');
    }
    if (below(4) == 0 && text.length() > 0) {
      text.setCharAt(below(text.length()), "twkxjrds;09 a".charAt(below(13)));
    }
    if (below(8) == 0 && text.length() > 0) {
      text.setLength(below(text.length()));
    }
    return text.toString();
  }

  private void compare(int run, MilkTwice x, PlainModel model, int call, Object[] arguments)
      throws ReflectiveOperationException {
    Object due = models.get(call).invoke(model, arguments);
    Object answer = calls.get(call).invoke(x, arguments);
    if (!due.equals(answer)) {
      wrong++;
      System.out.println("run " + run + ": " + calls.get(call).getName()
          + Arrays.toString(arguments) + " answered " + answer + ", due is " + due);
    }
  }

  private int numberOf(String name) {
    for (int i = 0; i < calls.size(); i++) {
      if (calls.get(i).getName().equals(name)) {
        return i;
      }
    }
    throw new IllegalStateException(name);
  }

  private void run(int run) throws ReflectiveOperationException {
    seed = 77L * run + 5;
    boolean wild = run % 5 == 0;
    MilkTwice x = new MilkTwice();
    PlainModel model = new PlainModel();
    int feed = numberOf("feed");
    int house = numberOf("house");
    int thing = numberOf("thing");
    for (int i = below(8); i > 0; i--) {
      compare(run, x, model, thing, new Object[] {below(6), below(10), below(10)});
    }
    for (int done = 0; done < CALLS && wrong < 20; ) {
      if (below(25) == 0) {
        String text = text(below(30));
        for (int i = 0; i < text.length(); i++, done++) {
          compare(run, x, model, feed, new Object[] {(int) text.charAt(i)});
        }
        compare(run, x, model, house, new Object[0]);
      }
      int call = below(calls.size());
      boolean keepsState = "restore".equals(calls.get(call).getName())
          || "house".equals(calls.get(call).getName());
      if (!keepsState || below(6) == 0) {
        compare(run, x, model, call, arguments(calls.get(call), wild));
      }
      done++;
    }
    int count = numberOf("count");
    for (int what = -1; what < 19; what++) {
      compare(run, x, model, count, new Object[] {what});
    }
  }

  public static void main(String[] args) throws ReflectiveOperationException {
    RandomRunsTest test = new RandomRunsTest();
    for (int run = 0; run < RUNS && test.wrong < 20; run++) {
      test.run(run);
    }
    System.out.println(test.wrong == 0 ? "all answers are as due" : "answers are not as due");
    if (test.wrong != 0) {
      System.exit(1);
    }
  }
}

import java.lang.reflect.Method;

/**
 * A call as it is written, "stock(0, 99)" or "feed('t')", done on an object; min and max stand for
 * those ints.
 */
final class Call {
  private Call() {}

  static long on(MilkTwice x, String call) {
    int open = call.indexOf('(');
    String inside = call.substring(open + 1, call.indexOf(')')).trim();
    String[] words = inside.isEmpty() ? new String[0] : inside.split(" *, *");
    Object[] arguments = new Object[words.length];
    for (int i = 0; i < words.length; i++) {
      arguments[i] = number(words[i]);
    }
    try {
      return ((Number) named(call.substring(0, open)).invoke(x, arguments)).longValue();
    } catch (ReflectiveOperationException e) {
      throw new IllegalStateException(call, e);
    }
  }

  private static int number(String word) {
    if (word.startsWith("'")) {
      return word.charAt(1);
    }
    switch (word) {
      case "min":
        return Integer.MIN_VALUE;
      case "max":
        return Integer.MAX_VALUE;
      default:
        return Integer.parseInt(word);
    }
  }

  private static Method named(String name) {
    for (Method m : MilkTwice.class.getMethods()) {
      if (m.getName().equals(name)) {
        return m;
      }
    }
    throw new IllegalStateException("no method " + name);
  }
}

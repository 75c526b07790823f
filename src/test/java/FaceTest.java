import java.lang.reflect.Constructor;
import java.lang.reflect.Field;
import java.lang.reflect.Method;
import java.lang.reflect.Modifier;
import java.util.TreeSet;

/** The public face is that of the document, and nothing of the class is seen beside it. */
public final class FaceTest {
  private static final String FACE = "int feed(int) int house() int thingOf(int,int) "
      + "int thing(int,int,int) int stock(int,int) int lineOf(int,int,int) int writes(int,int) "
      + "int ticks(int,int) int strikes(int,int) int rule(int) int join() int day() int back() "
      + "int apart() int joined(int,int) int bestRule(int) int stockIn(int,int) "
      + "int lacking(int,int) int runsOut(int) int firstOut() int buyFor(int,int) "
      + "int order(int,int) int unheard(int,int,int,int) int game(int) int all(int,int,int) "
      + "long flour(int,int,int,int) long sure(int,int,int) int bars(int,int,int) int alike(int) "
      + "int turns(int,int) int paper(int) int fridge(int,int) int latest() int twice() "
      + "int month() int swap() int needs(int,int) int noWaste(int,int) int cheapest(int,int) "
      + "int interval(int) int skew(int) int close(int) int worth() int biscuits(int) "
      + "int lasts(int) int weekly() int row(int) int judge(int) int clear() int lots(int,int,int) "
      + "int image() int restore() int count(int)";

  /** The names of all calls of the face. */
  static TreeSet<String> names() {
    TreeSet<String> names = new TreeSet<>();
    for (String method : FACE.split(" (?=int |long )")) {
      names.add(method.substring(method.indexOf(' ') + 1, method.indexOf('(')));
    }
    return names;
  }

  public static void main(String[] args) {
    Check check = new Check();
    TreeSet<String> seen = new TreeSet<>();
    TreeSet<String> names = new TreeSet<>();
    for (Method m : MilkTwice.class.getDeclaredMethods()) {
      if (Modifier.isPublic(m.getModifiers())) {
        StringBuilder parameters = new StringBuilder();
        for (Class<?> p : m.getParameterTypes()) {
          parameters.append(parameters.length() == 0 ? "" : ",").append(p);
        }
        seen.add(m.getReturnType() + " " + m.getName() + "(" + parameters + ")");
        names.add(m.getName());
        check.due("a static method " + m.getName(), m.getModifiers() & Modifier.STATIC, 0);
      }
    }
    for (Method m : MilkTwice.class.getDeclaredMethods()) {
      boolean isPrivate = Modifier.isPrivate(m.getModifiers());
      boolean isPublic = Modifier.isPublic(m.getModifiers());
      check.due("hidden " + m, isPublic || isPrivate ? 0 : 1, 0);
      check.due("name of a public one " + m, isPrivate && names.contains(m.getName()) ? 1 : 0, 0);
    }
    for (Field f : MilkTwice.class.getDeclaredFields()) {
      check.due("private " + f, f.getModifiers() & Modifier.PRIVATE, Modifier.PRIVATE);
    }
    Constructor<?>[] made = MilkTwice.class.getDeclaredConstructors();
    check.due("constructors", made.length, 1);
    check.due("parameters of it", made[0].getParameterCount(), 0);
    check.due("it is public", made[0].getModifiers(), Modifier.PUBLIC);
    check.due("class", MilkTwice.class.getModifiers(), Modifier.PUBLIC | Modifier.FINAL);
    TreeSet<String> due = new TreeSet<>();
    for (String method : FACE.split(" (?=int |long )")) {
      due.add(method);
    }
    check.due("methods of the face", due.size(), 53);
    check.due("the face " + seen + " is " + due, seen.equals(due) ? 0 : 1, 0);
    check.end();
  }
}

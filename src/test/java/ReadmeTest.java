import java.io.IOException;
import java.nio.file.Files;
import java.nio.file.Path;
import java.util.TreeSet;
import java.util.regex.Matcher;
import java.util.regex.Pattern;

/**
 * The calls that README.md shows, done in their order on one object, answer what stands behind
 * them; and it names every call that there is. It is looked for where the test is started.
 */
public final class ReadmeTest {
  private static final Pattern ROW = Pattern.compile("x\\.(\\w+\\(.*\\)); *// (-?\\d+)(:.*)?");
  private static final Pattern NAME = Pattern.compile("`(\\w+)`");

  public static void main(String[] args) throws IOException {
    Check check = new Check();
    MilkTwice x = new MilkTwice();
    TreeSet<String> named = new TreeSet<>();
    int shown = 0;
    int called = 0;
    for (String line : Files.readAllLines(Path.of("README.md"))) {
      Matcher row = ROW.matcher(line);
      shown += line.startsWith("x.") ? 1 : 0;
      if (row.matches()) {
        called++;
        check.due("README.md: " + row.group(1), Call.on(x, row.group(1)),
            Long.parseLong(row.group(2)));
      }
      Matcher name = NAME.matcher(line);
      while (name.find()) {
        named.add(name.group(1));
      }
    }
    check.due("calls that are shown with an answer", called, shown);
    check.due("some are shown", Math.min(called, 1), 1);
    for (String call : FaceTest.names()) {
      check.due("README.md names " + call, named.contains(call) ? 1 : 0, 1);
    }
    check.end();
  }
}

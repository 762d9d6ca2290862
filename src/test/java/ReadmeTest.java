import java.lang.reflect.Method;
import java.lang.reflect.Modifier;
import java.nio.file.Files;
import java.nio.file.Path;
import java.util.HashMap;
import java.util.HashSet;
import java.util.List;
import java.util.Map;
import java.util.Set;
import java.util.regex.Matcher;
import java.util.regex.Pattern;

/** README.md tells of each call, and its example answers as it says. It is run in the project's folder. */
public final class ReadmeTest {
  private static final Pattern EXAMPLE = Pattern.compile("(?:int (\\w+) = )?wharf\\.(\\w+)\\(([^)]*)\\); *// (-?\\d+)\\b.*");
  private static final Pattern ROW = Pattern.compile("\\| `(\\w+)\\(([^)]*)\\)` \\|.*");

  public static void main(String[] args) throws Exception {
    List<String> lines = Files.readAllLines(Path.of("README.md"));
    answersAsTheExampleSays(lines);
    hasARowForEachCall(lines);
    Check.end();
  }

  private static void answersAsTheExampleSays(List<String> lines) throws Exception {
    TreadCranes wharf = new TreadCranes();
    Map<String, Integer> named = new HashMap<>();
    int calls = 0;
    for (String line : lines) {
      Matcher matcher = EXAMPLE.matcher(line);
      if (matcher.matches()) {
        int got = called(wharf, matcher.group(2), matcher.group(3).split(", "), named);
        Check.is(line, got, Integer.parseInt(matcher.group(4)));
        if (matcher.group(1) != null) {
          named.put(matcher.group(1), got);
        }
        calls++;
      }
    }
    Check.is("lines of the example with an answer", calls, lines.stream().filter(l -> l.contains("wharf.")).count());
    Check.is("whether there is an example", calls > 0 ? 1 : 0, 1);
  }

  private static int called(TreadCranes wharf, String name, String[] given, Map<String, Integer> named) throws Exception {
    Class<?>[] types = new Class<?>[given.length];
    Object[] numbers = new Object[given.length];
    for (int i = 0; i < given.length; i++) {
      types[i] = int.class;
      numbers[i] = named.containsKey(given[i]) ? named.get(given[i]) : Integer.valueOf(given[i]);
    }
    return (Integer) TreadCranes.class.getMethod(name, types).invoke(wharf, numbers);
  }

  private static void hasARowForEachCall(List<String> lines) {
    Set<String> rows = new HashSet<>();
    for (String line : lines) {
      Matcher matcher = ROW.matcher(line);
      if (matcher.matches()) {
        String given = matcher.group(2);
        rows.add(matcher.group(1) + " with " + (given.isEmpty() ? 0 : given.split(", ").length));
      }
    }
    Set<String> calls = new HashSet<>();
    for (Method method : TreadCranes.class.getDeclaredMethods()) {
      if (Modifier.isPublic(method.getModifiers())) {
        calls.add(method.getName() + " with " + method.getParameterCount());
      }
    }
    if (!rows.equals(calls)) {
      Check.fail("README.md has rows for " + rows + ", due is " + calls);
    }
  }
}

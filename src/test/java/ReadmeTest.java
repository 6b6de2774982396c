import java.io.IOException;
import java.lang.reflect.Method;
import java.nio.file.Files;
import java.nio.file.Path;
import java.util.ArrayList;
import java.util.List;
import java.util.Map;
import java.util.regex.Matcher;
import java.util.regex.Pattern;
import java.util.stream.Stream;

/** README.md: the run of calls in it answers what it says there, and it names each call of the face and each test. */
public final class ReadmeTest {
  private static final Map<String, Integer> NAMES =
      Map.of("BAD", PulseNet.BAD, "NONE", PulseNet.NONE, "NOT_YET", PulseNet.NOT_YET);
  private static int wrong = 0;

  public static void main(String[] args) throws IOException, ReflectiveOperationException {
    String text = Files.readString(Path.of("README.md"));
    runExample(text);
    for (Method m : PulseNet.class.getDeclaredMethods()) {
      if (java.lang.reflect.Modifier.isPublic(m.getModifiers())) {
        due("README.md names " + m.getName(), text.contains("`" + m.getName() + "("), true);
      }
    }
    for (String test : tests()) {
      due("README.md names " + test, text.contains("`" + test + "`:"), true);
    }
    System.out.println(wrong == 0 ? "the README is as due" : wrong + " things in the README are not as due");
    if (wrong != 0) {
      System.exit(1);
    }
  }

  private static void due(String what, Object got, Object want) {
    if (!got.equals(want)) {
      wrong++;
      System.out.println(what + ": " + got + ", due is " + want);
    }
  }

  /** Each row of the example bears its answer at the start of its comment. */
  private static void runExample(String text) throws ReflectiveOperationException {
    PulseNet x = new PulseNet();
    Matcher row = Pattern.compile("(?m)^x\\.(\\w+)\\(([^)]*)\\); +// (\\w+)\\b").matcher(text);
    int rows = 0;
    while (row.find()) {
      Integer named = NAMES.get(row.group(3));
      int want = named == null ? Integer.parseInt(row.group(3)) : named;
      due(row.group(), ask(x, row.group(1), row.group(2)), want);
      rows++;
    }
    long calls = text.lines().filter(line -> line.startsWith("x.")).count();
    due("rows of the example with an answer", rows, (int) calls);
    due("there is an example", rows > 0, true);
  }

  private static int ask(PulseNet x, String name, String numbers) throws ReflectiveOperationException {
    List<Class<?>> types = new ArrayList<>();
    List<Object> given = new ArrayList<>();
    for (String number : numbers.isEmpty() ? new String[0] : numbers.split(", ")) {
      types.add(int.class);
      given.add(Integer.valueOf(number));
    }
    Method called = PulseNet.class.getMethod(name, types.toArray(new Class<?>[0]));
    return (int) called.invoke(x, given.toArray());
  }

  private static List<String> tests() throws IOException {
    try (Stream<Path> files = Files.list(Path.of("src/test/java"))) {
      return files.map(file -> file.getFileName().toString().replace(".java", "")).sorted().toList();
    }
  }
}

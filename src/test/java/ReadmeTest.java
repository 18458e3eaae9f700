import java.io.IOException;
import java.lang.reflect.Method;
import java.nio.file.Files;
import java.nio.file.Path;
import java.util.ArrayList;
import java.util.LinkedHashSet;
import java.util.List;
import java.util.Set;
import java.util.regex.Matcher;
import java.util.regex.Pattern;
import java.util.stream.Stream;

/** README.md against the class, the document, and the files that there are. */
public final class ReadmeTest {
  private static final Path README = Path.of("README.md");
  private static final Path DOCUMENT = Path.of("../shared/DOC.md");
  private static final int MOST_CALLS = 512;
  private static final String NEW_OBJECT = "TideMill x = new TideMill();";
  private static final Pattern CALL = Pattern.compile("x\\.(\\w+)\\(([-0-9, ]*)\\);\\s*// (-?\\d+)(?:: .+)?");
  private static final Pattern ROW = Pattern.compile("\\| `(\\w+\\([\\w, ]*\\))` \\|.*\\| ([A-Z, ]+|none) \\|");
  private static final Pattern PROMISE = Pattern.compile("(?m)^`int (\\w+\\([\\w, ]*\\))`: (.*)$");
  private static final Pattern FINDING = Pattern.compile("\\b(BEYOND|NONE|STATE|FULL|KIND)(?=[:.])");
  private static final Pattern FILE = Pattern.compile("(?:\\.\\./shared|src)/[\\w/]+\\.(?:java|md)|\\.ci/run");

  private static int wrong = 0;

  private static void fail(String what) {
    wrong++;
    System.out.println(what);
  }

  public static void main(String[] args) throws Exception {
    List<String> lines = Files.readAllLines(README);
    Set<String> shown = examples(lines);
    for (Method m : TideMill.class.getDeclaredMethods()) {
      if (java.lang.reflect.Modifier.isPublic(m.getModifiers()) && !shown.contains(m.getName())) {
        fail("no example shows " + m.getName());
      }
    }
    table(lines);
    findings(lines);
    files(Files.readString(README));
    System.out.println(wrong == 0 ? "README.md is as the class is" : wrong + " things in README.md are not so");
    if (wrong != 0) {
      System.exit(1);
    }
  }

  /** Makes every call of every example, and tells the names of the calls. */
  private static Set<String> examples(List<String> lines) throws Exception {
    Set<String> shown = new LinkedHashSet<>();
    TideMill x = null;
    boolean inside = false;
    int calls = 0;
    for (String line : lines) {
      if (line.startsWith("```")) {
        inside = line.equals("```java");
        x = null;
      } else if (inside && line.equals(NEW_OBJECT)) {
        x = new TideMill();
        calls = 0;
      } else if (inside) {
        Matcher call = CALL.matcher(line);
        if (x == null || !call.matches() || ++calls > MOST_CALLS) {
          fail("not a call with its answer: " + line);
          continue;
        }
        shown.add(call.group(1));
        int got = answer(x, call.group(1), numbers(call.group(2)));
        if (got != Integer.parseInt(call.group(3))) {
          fail("the class answers " + got + ": " + line);
        }
      }
    }
    return shown;
  }

  private static Object[] numbers(String text) {
    return text.isEmpty() ? new Object[0] : Stream.of(text.split(", ")).map(Integer::valueOf).toArray();
  }

  private static int answer(TideMill x, String name, Object[] numbers) throws Exception {
    Class<?>[] types = new Class<?>[numbers.length];
    java.util.Arrays.fill(types, int.class);
    return (int) TideMill.class.getMethod(name, types).invoke(x, numbers);
  }

  /** The table has the document's calls in its order, each with its findings as the promise names them. */
  private static void table(List<String> lines) throws IOException {
    List<String> got = new ArrayList<>();
    for (String line : lines) {
      Matcher row = ROW.matcher(line);
      if (row.matches()) {
        got.add(row.group(1) + " " + row.group(2));
      }
    }
    List<String> want = new ArrayList<>();
    Matcher promise = PROMISE.matcher(Files.readString(DOCUMENT));
    while (promise.find()) {
      Set<String> findings = new LinkedHashSet<>();
      Matcher finding = FINDING.matcher(promise.group(2));
      while (finding.find()) {
        findings.add(finding.group(1));
      }
      String names = findings.isEmpty() ? "none" : String.join(", ", findings);
      want.add(promise.group(1).replace("int ", "") + " " + names);
    }
    if (want.size() != 26) {
      fail("promises of calls in the document: " + want.size());
    }
    for (int i = 0; i < Math.max(got.size(), want.size()); i++) {
      String row = i < got.size() ? got.get(i) : "nothing";
      String due = i < want.size() ? want.get(i) : "nothing";
      if (!row.equals(due)) {
        fail("row " + i + " of the calls is " + row + ", due is " + due);
      }
    }
  }

  private static void findings(List<String> lines) {
    String[] names = {"BEYOND", "NONE", "STATE", "FULL", "KIND"};
    for (int k = 1; k <= names.length; k++) {
      String row = "| " + (-1000000000 - k) + " | " + names[k - 1] + " | ";
      if (lines.stream().filter(line -> line.startsWith(row)).count() != 1) {
        fail("no row of a finding: " + row);
      }
    }
  }

  /** Each file that is named is there, and each test of the project is named. */
  private static void files(String text) throws IOException {
    Set<Path> named = new LinkedHashSet<>();
    Matcher file = FILE.matcher(text);
    while (file.find()) {
      named.add(Path.of(file.group()));
    }
    for (Path path : named) {
      if (!Files.isRegularFile(path)) {
        fail("no such file: " + path);
      }
    }
    try (Stream<Path> tests = Files.list(Path.of("src/test/java"))) {
      tests.filter(test -> !named.contains(test)).forEach(test -> fail("not named: " + test));
    }
  }
}

import java.io.IOException;
import java.nio.file.DirectoryStream;
import java.nio.file.Files;
import java.nio.file.Path;
import java.util.Set;
import java.util.TreeSet;
import java.util.regex.Matcher;
import java.util.regex.Pattern;

/** README.md says what is so: its calls and constants, and which tests there are; .ci/run starts it at the root. */
public final class ReadmeTest {
  private static final Path README = Path.of("README.md");
  private static final Path TESTS = Path.of("src/test/java");
  private static final Pattern EXAMPLE = Pattern.compile("```java\n(.*?)```", Pattern.DOTALL);
  private static final Pattern TYPED = Pattern.compile("\"([^\"]+)\"\\.toCharArray\\(\\)");
  private static final Pattern CALL = Pattern.compile("(?m)^x\\.(\\w+)\\(([-\\d, ]*)\\); *// (-?\\d+)\\b");
  private static final Pattern CONSTANT = Pattern.compile("`([A-Z_]+)` \\((-\\d+)\\)");
  private static final Pattern NAMED_TEST = Pattern.compile("`(\\w+Test)`");

  public static void main(String[] args) throws IOException {
    String readme = Files.readString(README);
    example(readme);
    constants(readme);
    tests(readme);
    Due.end();
  }

  private static void example(String readme) {
    Matcher block = EXAMPLE.matcher(readme);
    Due.isTrue("there is an example", block.find());
    String code = block.group(1);
    Matcher typed = TYPED.matcher(code);
    Due.isTrue("the example types a text", typed.find());
    JammedBodies x = Due.typed(new JammedBodies(), typed.group(1));
    Matcher line = CALL.matcher(code);
    int calls = 0;
    while (line.find()) {
      Call call = new Call(line.group(1), arguments(line.group(2)));
      Due.is("README.md: " + call.told(), call.on(x), Integer.parseInt(line.group(3)));
      calls++;
    }
    // The loop that types stands in the example too, a line that starts further in.
    Due.is("README.md: lines of the example that call and answer", calls, code.split("\nx\\.", -1).length - 1);
  }

  private static int[] arguments(String told) {
    if (told.isEmpty()) {
      return new int[0];
    }
    String[] each = told.split(", ");
    int[] arguments = new int[each.length];
    for (int k = 0; k < each.length; k++) {
      arguments[k] = Integer.parseInt(each[k]);
    }
    return arguments;
  }

  private static void constants(String readme) {
    StringBuilder told = new StringBuilder();
    Matcher constant = CONSTANT.matcher(readme);
    while (constant.find()) {
      told.append(constant.group(1)).append(' ').append(constant.group(2)).append(' ');
    }
    Due.same("README.md: the constants", told.toString(), "INVALID_ARGUMENT " + JammedBodies.INVALID_ARGUMENT
        + " NOT_POSSIBLE " + JammedBodies.NOT_POSSIBLE + " LIMIT_REACHED " + JammedBodies.LIMIT_REACHED
        + " NOT_FOUND " + JammedBodies.NOT_FOUND + " ");
  }

  private static void tests(String readme) throws IOException {
    Set<String> named = new TreeSet<>();
    Matcher test = NAMED_TEST.matcher(readme);
    while (test.find()) {
      named.add(test.group(1));
    }
    Set<String> there = new TreeSet<>();
    try (DirectoryStream<Path> files = Files.newDirectoryStream(TESTS, "*Test.java")) {
      for (Path file : files) {
        there.add(file.getFileName().toString().replace(".java", ""));
      }
    }
    Due.same("README.md: the tests", named.toString(), there.toString());
  }
}

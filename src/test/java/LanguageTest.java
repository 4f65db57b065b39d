import java.io.IOException;
import java.nio.file.Files;
import java.nio.file.Path;
import java.util.List;
import java.util.regex.Matcher;
import java.util.regex.Pattern;

/** Those rules of LANGUAGE.md that can be seen from the text of the class; .ci/run starts it at the root. */
public final class LanguageTest {
  private static final Path SOURCE = Path.of("src/main/java/JammedBodies.java");
  private static final String[] FORBIDDEN = {"throw", "throws", "try", "catch", "finally", "synchronized", "assert", "import",
      "package", "volatile", "native", "transient", "strictfp", "equals", "hashCode", "toString", "Object", "System\\.out",
      "Float\\.", "Double\\.", "Integer\\.MIN_VALUE", "Integer\\.MAX_VALUE", "\\w+Exact", "record", "var", "yield", "protected"};

  public static void main(String[] args) throws IOException {
    String code = bare(Files.readString(SOURCE));
    for (String word : FORBIDDEN) {
      Matcher found = Pattern.compile("\\b" + word + "\\b").matcher(code);
      Due.isTrue("rules 4 and 6: " + word + " stands in the class", !found.find());
    }
    Due.isTrue("rule 2: a lambda or an arrow", !code.contains("->"));
    Due.isTrue("rule 2: a method reference", !code.contains("::"));
    lengths(code);
    parameters(code);
    noObjectsInCalls(code);
    Due.end();
  }

  /** The code without comments and without what stands between quotes. */
  private static String bare(String source) {
    String code = Pattern.compile("/\\*.*?\\*/", Pattern.DOTALL).matcher(source).replaceAll(" ");
    return code.replaceAll("//[^\n]*", "").replaceAll("'[^'\n]*'", "' '").replaceAll("\"[^\"\n]*\"", "\"\"");
  }

  private static void lengths(String code) {
    List<String> lines = List.of(code.split("\n"));
    int start = -1;
    String indent = "";
    for (int k = 0; k < lines.size(); k++) {
      String line = lines.get(k);
      if (start < 0 && line.matches("( {4}| {8})[\\w\\[\\] ]+\\(.*\\) \\{") && !line.contains(" class ")) {
        start = k;
        indent = line.substring(0, line.length() - line.stripLeading().length());
      } else if (start >= 0 && line.equals(indent + "}")) {
        Due.isTrue("rule 11: a method of over 60 lines: " + lines.get(start), k - start < 60);
        start = -1;
      }
    }
  }

  private static void parameters(String code) {
    Matcher method = Pattern.compile("\\w+ \\w+\\(([^)]*)\\) \\{").matcher(code);
    while (method.find()) {
      Due.isTrue("rule 11: over seven parameters: " + method.group(), method.group(1).split(",").length <= 7);
    }
  }

  /** The room of a run is small: objects are made in constructors alone. */
  private static void noObjectsInCalls(String code) {
    String rest = code.replaceAll("(?m)^( *)(public )?(JammedBodies|Body|Packing|History|BodyText)\\(\\) \\{[\\s\\S]*?^\\1\\}", "");
    Due.isTrue("rule 12: 'new' outside the constructors", !Pattern.compile("\\bnew\\b").matcher(rest).find());
    Due.isTrue("'new' in the constructors", Pattern.compile("\\bnew\\b").matcher(code).find());
  }
}

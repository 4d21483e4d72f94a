import java.nio.file.Files;
import java.nio.file.Path;
import java.util.Set;
import java.util.regex.Matcher;
import java.util.regex.Pattern;

/** What of ../shared/LANGUAGE.md can be told from the text of the class; each by its rule's number. */
public final class LanguageTest {
  private static final Set<String> LIBRARY = Set.of(
      "Math.abs", "Math.max", "Math.min", "Math.floorDiv", "Math.floorMod", "Integer.bitCount");
  private static final Set<String> EXCEPTIONS = Set.of(
      "IllegalStateException", "IllegalArgumentException", "IndexOutOfBoundsException");
  private static final Due DUE = new Due();

  public static void main(String[] args) throws Exception {
    String code = Files.readString(Path.of("src/main/java/Pseudorange.java"))
        .replaceAll("(?s)/\\*.*?\\*/", "").replaceAll("//[^\n]*", "");
    without(1, code, "\\b(package|import|protected)\\b");
    without(2, code, "->|::");
    without(3, code, "\\b(Object|String|List|ArrayList|Map|Set)\\b");
    without(3, code, "\\bfloat\\b|\\bNaN\\b|\\[\\]\\s*\\[\\]");
    library(code);
    without(5, code, "\\bstatic\\s*\\{|\\bstatic (int|long|boolean|double)(\\[\\])? \\w+( =|;)");
    without(6, code, "\\b(try|catch|finally|synchronized|assert|instanceof)\\b");
    thrown(code);
    without(9, code, "\\bwhile\\s*\\(true\\)|for\\s*\\(;;");
    without(10, code, "\"\\s*\\+|\\+\\s*\"");
    sizes(code);
    DUE.end();
  }

  private static void without(int rule, String code, String pattern) {
    Matcher found = Pattern.compile(pattern).matcher(code);
    while (found.find()) {
      DUE.isWrong("rule " + rule + ": " + found.group());
    }
  }

  private static void library(String code) {
    Matcher found = Pattern.compile("\\b[A-Z][a-z]\\w*\\.\\w+").matcher(code);
    while (found.find()) {
      DUE.is("rule 4: " + found.group() + " is of the library", LIBRARY.contains(found.group()), true);
    }
  }

  private static void thrown(String code) {
    Matcher found = Pattern.compile("\\bthrow (\\w+) (\\w+)\\(([^;]*)\\);").matcher(code);
    int count = 0;
    while (found.find()) {
      count++;
      DUE.is("rule 6: " + found.group(), found.group(1).equals("new")
          && EXCEPTIONS.contains(found.group(2)) && found.group(3).matches("\"[ -~&&[^\"]]*\""), true);
    }
    DUE.is("rule 6: every throw", code.split("\\bthrow\\b", -1).length - 1, count);
  }

  private static void sizes(String code) {
    DUE.is("rule 11: some twelve classes", code.split("\\bclass\\b", -1).length - 1 <= 12, true);
    Matcher method = Pattern.compile("(?m)^( {2}| {4})(?:public|private) [^;={]*\\(([^)]*)\\)[^;={]*\\{")
        .matcher(code);
    while (method.find()) {
      int end = code.indexOf("\n" + method.group(1) + "}", method.end());
      long lines = code.substring(method.start(), end).lines().count();
      DUE.is("rule 11: some sixty lines, but " + lines + " of " + method.group(), lines <= 60, true);
      DUE.is("rule 11: at most seven parameters", method.group(2).split(",").length <= 7, true);
    }
  }
}

import java.io.IOException;
import java.nio.file.Files;
import java.nio.file.Path;
import java.util.List;
import java.util.regex.Matcher;
import java.util.regex.Pattern;

/** Rules of LANGUAGE.md that can be seen in the text of the program; run from the project's folder. */
public final class SourceRulesTest {
  private static final Due DUE = new Due();

  public static void main(String[] args) throws IOException {
    String source = Files.readString(Path.of("src/main/java/LoftPost.java"));
    String code = source.replaceAll("(?s)/\\*.*?\\*/", "").replaceAll("//[^\n]*", "")
        .replaceAll("\"[^\"\n]*\"", "\"\"");
    forbids(code, "the file has no package and no import", "\\b(package|import)\\b");
    forbids(code, "rule 2: no lambda, no method reference", "->|::");
    forbids(code, "rule 4: no other library",
        "\\b(System|Objects|Thread|Random|Collections|Stream|Optional|Scanner|Character)\\b");
    forbids(code, "rule 4: nothing that ends in Exact", "Exact\\(");
    forbids(code, "rule 5: no static state", "\\bstatic (?!final)\\w+(\\[\\])* \\w+( =|;)");
    forbids(code, "rule 5: no static initialiser", "\\bstatic \\{");
    forbids(code, "rule 6: nothing of these", "\\b(try|catch|finally|synchronized|assert)\\b");
    forbids(code, "rule 6: no equals, hashCode, toString", "\\b(equals|hashCode|toString)\\b");
    forbids(code, "rule 1: the public members are those of the document", "\\bpublic (?!final class "
        + "LoftPost|LoftPost\\(|(int|long|double) (feed|trim|teach|errorAt|count|loft|pigeon|hawk"
        + "|letter|bring|lure|pass|foresee|arrives|where|blame|doubles|need|mean|digest)\\()");
    forbids(code, "rule 1: nothing protected", "\\bprotected\\b");
    forbids(code, "rule 1: what is not public is private", "(?m)^  (?!public |private |\\}| )\\S");
    forbids(code, "no other method bears the name of a public one", "(?m)^ +(private |static )*\\w+ "
        + "(feed|trim|teach|errorAt|count|loft|pigeon|hawk|letter|bring|lure|pass|foresee|arrives"
        + "|where|blame|doubles|need|mean|digest)\\([^;]*\\{$");
    methodsAreShort(source);
    DUE.end();
  }

  private static void forbids(String code, String rule, String pattern) {
    Matcher matcher = Pattern.compile(pattern).matcher(code);
    DUE.is(rule, "", () -> matcher.find() ? matcher.group() : "");
  }

  private static void methodsAreShort(String source) {
    List<String> lines = source.lines().toList();
    for (int from = 0; from < lines.size(); from++) {
      String line = lines.get(from);
      String indent = line.substring(0, line.length() - line.stripLeading().length());
      if (line.endsWith(") {") && (indent.length() == 2 || indent.length() == 4)) {
        int to = from;
        while (!lines.get(to).equals(indent + "}")) {
          to++;
        }
        int length = to - from + 1;
        DUE.is("rule 11: the method at line " + (from + 1) + " is short", true, () -> length <= 60);
      }
    }
  }
}

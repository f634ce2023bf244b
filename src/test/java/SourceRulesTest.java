import java.io.IOException;
import java.nio.file.Files;
import java.nio.file.Path;
import java.util.List;
import java.util.Map;
import java.util.TreeMap;
import java.util.regex.Matcher;
import java.util.regex.Pattern;

/** Rules of LANGUAGE.md that can be seen in the text of the program; run from the project's folder. */
public final class SourceRulesTest {
  private static final Due DUE = new Due();

  public static void main(String[] args) throws IOException {
    String source = Files.readString(Path.of("src/main/java/LoftPost.java"));
    String code = source.replaceAll("(?s)/\\*.*?\\*/", "").replaceAll("//[^\n]*", "")
        .replaceAll("\"[^\"\n]*\"", "\"\"");
    forbids(code, "the file has no package and no import", "\\b(package|import)\\b");
    forbids(code, "rule 2: no lambda, no method reference", "->|::");
    forbids(code, "rule 4: no other library",
        "\\b(System|Objects|Thread|Random|Collections|Stream|Optional|Scanner|Character)\\b");
    forbids(code, "rule 4: nothing that ends in Exact", "Exact\\(");
    forbids(code, "rule 5: no static state", "\\bstatic (?!final)\\w+(\\[\\])* \\w+( =|;)");
    forbids(code, "rule 5: no static initialiser", "\\bstatic \\{");
    forbids(code, "rule 6: nothing of these", "\\b(try|catch|finally|synchronized|assert)\\b");
    forbids(code, "rule 6: no equals, hashCode, toString", "\\b(equals|hashCode|toString)\\b");
    forbids(code, "rule 1: the public members are those of the document", "\\bpublic (?!final class "
        + "LoftPost|LoftPost\\(|(int|long|double) (feed|trim|teach|errorAt|count|loft|pigeon|hawk"
        + "|letter|bring|lure|pass|foresee|arrives|where|blame|doubles|need|mean|digest)\\()");
    forbids(code, "rule 1: nothing protected", "\\bprotected\\b");
    forbids(code, "rule 1: what is not public is private", "(?m)^  (?!public |private |\\}| )\\S");
    forbids(code, "no other method bears the name of a public one", "(?m)^ +(private |static )*\\w+ "
        + "(feed|trim|teach|errorAt|count|loft|pigeon|hawk|letter|bring|lure|pass|foresee|arrives"
        + "|where|blame|doubles|need|mean|digest)\\([^;]*\\{$");
    methodsAreSmall(code);
    DUE.end();
  }

  private static void forbids(String code, String rule, String pattern) {
    Matcher matcher = Pattern.compile(pattern).matcher(code);
    DUE.is(rule, "", () -> matcher.find() ? matcher.group() : "");
  }

  /** Looks at each method's length, and at how deep its calls go. */
  private static void methodsAreSmall(String code) {
    List<String> lines = code.lines().toList();
    // Methods of one name count as one, whatever class they are in.
    Map<String, String> bodies = new TreeMap<>();
    Pattern head = Pattern.compile("( {2}| {4})(?! )[\\w\\[\\] ]*\\b(\\w+)\\([^;]*");
    for (int from = 0; from < lines.size(); from++) {
      Matcher matcher = head.matcher(lines.get(from));
      if (matcher.matches() && !matcher.group(2).matches("if|for|while|switch")) {
        int to = lines.subList(from, lines.size()).indexOf(matcher.group(1) + "}");
        DUE.is("rule 11: " + matcher.group(2) + " is short", true, () -> to >= 0 && to < 60);
        String body = String.join("\n", lines.subList(from + 1, from + to));
        bodies.merge(matcher.group(2), body, String::concat);
      }
    }
    DUE.is("the methods are found", true, () -> bodies.containsKey("digest")
        && bodies.containsKey("lure") && bodies.containsKey("readStage"));
    for (String name : bodies.keySet()) {
      DUE.is("rule 11: the calls of " + name + " go at most 8 deep", true,
          () -> depth(name, bodies, 1) <= 8);
    }
  }

  private static int depth(String name, Map<String, String> bodies, int above) {
    int deepest = above;
    Matcher call = Pattern.compile("\\b(\\w+)\\(").matcher(bodies.get(name));
    while (above < 12 && call.find()) {
      if (!call.group(1).equals(name) && bodies.containsKey(call.group(1))) {
        deepest = Math.max(deepest, depth(call.group(1), bodies, above + 1));
      }
    }
    return deepest;
  }
}

import java.io.ByteArrayOutputStream;
import java.io.IOException;
import java.io.PrintStream;
import java.lang.reflect.Method;
import java.lang.reflect.Modifier;
import java.net.URL;
import java.net.URLClassLoader;
import java.nio.file.Files;
import java.nio.file.Path;
import java.util.ArrayList;
import java.util.List;
import java.util.regex.Matcher;
import java.util.regex.Pattern;
import java.util.stream.Stream;
import javax.tools.JavaCompiler;
import javax.tools.ToolProvider;

/** What README.md shows is what the class answers; run from the project's folder. */
public final class ReadmeTest {
  private static final Due DUE = new Due();

  public static void main(String[] args) throws Exception {
    String readme = Files.readString(Path.of("README.md"));
    exampleAnswersAsShown(readme);
    allCallsAreNamed(readme);
    allTestsAreNamed(readme);
    DUE.end();
  }

  private static void exampleAnswersAsShown(String readme) throws Exception {
    String[] parts = readme.split("(?m)^```java\n|^```\n?");
    List<String> programs = new ArrayList<>();
    for (String part : parts) {
      if (part.contains("class Example ")) {
        programs.add(part);
      }
    }
    DUE.is("programs in README.md", 1, programs::size);
    String program = programs.get(0);
    List<String> calls = new ArrayList<>();
    List<String> shown = new ArrayList<>();
    Matcher line = Pattern.compile("(?m)^ +show\\((.*)\\); +// (-?[0-9.]+)(:.*)?$").matcher(program);
    while (line.find()) {
      calls.add(line.group(1));
      shown.add(line.group(2));
    }
    List<String> answered = run(program);
    DUE.is("README.md shows an answer behind each call", answered.size(), shown::size);
    for (int i = 0; i < calls.size(); i++) {
      int place = i;
      DUE.is("README.md, answer " + i + " is that of " + calls.get(i), shown.get(i),
          () -> answered.get(place));
    }
  }

  /** Compiles the program, and answers what it prints, line by line. */
  private static List<String> run(String program) throws Exception {
    Path folder = Files.createTempDirectory("readme");
    try {
      Path file = Files.writeString(folder.resolve("Example.java"), program);
      JavaCompiler compiler = ToolProvider.getSystemJavaCompiler();
      if (compiler == null) {
        throw new IllegalStateException("java has no compiler");
      }
      int failed = compiler.run(null, null, null, "-Xlint:all", "-Werror", "-d", folder.toString(),
          "-cp", System.getProperty("java.class.path"), file.toString());
      DUE.is("README.md: javac of the program", 0, () -> failed);
      return printed(folder);
    } finally {
      delete(folder);
    }
  }

  private static List<String> printed(Path folder) throws Exception {
    ByteArrayOutputStream bytes = new ByteArrayOutputStream();
    PrintStream before = System.out;
    try (URLClassLoader loader = new URLClassLoader(new URL[] {folder.toUri().toURL()});
        PrintStream catching = new PrintStream(bytes)) {
      Method main = loader.loadClass("Example").getMethod("main", String[].class);
      System.setOut(catching);
      main.invoke(null, (Object) new String[0]);
    } finally {
      System.setOut(before);
    }
    return bytes.toString().lines().toList();
  }

  private static void delete(Path folder) throws IOException {
    try (Stream<Path> files = Files.list(folder)) {
      for (Path file : files.toList()) {
        Files.delete(file);
      }
    }
    Files.delete(folder);
  }

  private static void allCallsAreNamed(String readme) {
    for (Method method : LoftPost.class.getDeclaredMethods()) {
      if (Modifier.isPublic(method.getModifiers())) {
        DUE.is("README.md tells of " + method.getName(), true,
            () -> readme.contains("`" + method.getName() + "`"));
        DUE.is("README.md shows a call of " + method.getName(), true,
            () -> readme.contains("post." + method.getName() + "("));
      }
    }
  }

  private static void allTestsAreNamed(String readme) throws IOException {
    try (Stream<Path> files = Files.list(Path.of("src/test/java"))) {
      for (Path file : files.toList()) {
        String name = file.getFileName().toString().replace(".java", "");
        DUE.is("README.md tells of " + name, true, () -> readme.contains("`" + name + "`"));
      }
    }
  }
}

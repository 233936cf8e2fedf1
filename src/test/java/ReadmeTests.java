import java.nio.file.Files;
import java.nio.file.Path;
import java.util.Arrays;
import java.util.regex.Matcher;
import java.util.regex.Pattern;
import javax.tools.JavaCompiler;
import javax.tools.ToolProvider;

/**
 * What README.md says of answers is what the class answers: its java blocks are made into one program, in which each
 * call with a remark behind it is held against the answer that the remark begins with.
 */
public final class ReadmeTests {
  private static final Pattern BLOCK = Pattern.compile("(?s)```java\n(.*?)```");
  private static final Pattern REMARKED = Pattern.compile("(\\S.*); +// (.*)");
  private static final Pattern ANSWER = Pattern.compile("(-?\\d+|true|false|throws NoSuchElementException)(: .+)?");

  public static void main(String[] args) throws Exception {
    String readme = Files.readString(Path.of(System.getProperty("winter.readme")));
    Path out = Path.of(ReadmeTests.class.getProtectionDomain().getCodeSource().getLocation().toURI());
    Path source = Files.writeString(out.resolve("ReadmeProgram.java"), program(readme));
    JavaCompiler compiler = ToolProvider.getSystemJavaCompiler();
    int compiled = compiler.run(null, null, null, "--release", "17", "-cp", out.toString(), "-d", out.toString(), source.toString());
    Check.due("README.md's program compiles", compiled, 0);
    if (compiled == 0) {
      // In the directory of the tests, so that the same loader takes it and it may use Check.
      Class.forName("ReadmeProgram").getDeclaredMethod("run").invoke(null);
    }
    tellsWhatItShould(readme);
    Check.end("ReadmeTests");
  }

  private static String program(String readme) {
    StringBuilder members = new StringBuilder();
    StringBuilder lines = new StringBuilder();
    Matcher block = BLOCK.matcher(readme);
    while (block.find()) {
      if (block.group(1).startsWith("static ")) {
        members.append(block.group(1));
      } else {
        Arrays.stream(block.group(1).split("\n")).forEach(line -> lines.append(checked(line)).append('\n'));
      }
    }
    return "final class ReadmeProgram {\n" + members + "static void run() {\n" + lines + "}\n}\n";
  }

  private static String checked(String line) {
    Matcher remarked = REMARKED.matcher(line);
    if (!remarked.matches()) {
      Check.due("a call without an answer: " + line, line.isBlank() || line.startsWith("WinterTellers x = "), true);
      return line;
    }
    String call = remarked.group(1);
    Matcher answer = ANSWER.matcher(remarked.group(2));
    if (!answer.matches()) {
      Check.due("an answer behind: " + line, false, true);
      return "";
    }
    String what = "\"" + call.replace("\"", "'") + "\"";
    if (answer.group(1).startsWith("throws")) {
      return "try { " + call + "; Check.due(" + what + ", false, true); }"
          + " catch (java.util.NoSuchElementException e) { Check.due(" + what + ", true, true); }";
    }
    return "Check.due(" + what + ", " + call + ", " + answer.group(1) + ");";
  }

  /** The page must not lose what it is for. */
  private static void tellsWhatItShould(String readme) {
    String[] words = {"new WinterTellers()", "x.text(0);", "x.text(1);", "x.law(0);", "x.undo();", "x.status(2);",
      "// throws NoSuchElementException", "// -2", "// -1000000", "// false", ".ci/run"};
    for (String word : words) {
      Check.due("README.md tells " + word, readme.contains(word), true);
    }
    for (java.io.File file : Path.of(System.getProperty("winter.source")).resolveSibling("../../test/java").toFile().listFiles()) {
      String test = file.getName().replace(".java", "");
      Check.due("README.md names " + test, !test.endsWith("Tests") || readme.contains("`" + test + "`"), true);
    }
  }
}

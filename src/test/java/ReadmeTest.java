import java.io.IOException;
import java.lang.reflect.Method;
import java.lang.reflect.Modifier;
import java.nio.file.Files;
import java.nio.file.Path;
import java.util.ArrayList;
import java.util.List;
import java.util.regex.Matcher;
import java.util.regex.Pattern;
import java.util.stream.Stream;

/** Does what README.md says, in a directory of its own, and looks whether it comes out as it stands there. */
public final class ReadmeTest {
  private final Path root;
  private final String page;

  private ReadmeTest(Path root) throws IOException {
    this.root = root;
    page = Files.readString(root.resolve("README.md"));
  }

  public static void main(String[] args) throws Exception {
    ReadmeTest test = new ReadmeTest(Path.of(args.length > 0 ? args[0] : "."));
    Path work = Files.createTempDirectory("readme");
    try {
      test.copySources(work);
      test.theFirstProgram(work);
      test.oneTestAlone(work);
    } finally {
      removeAll(work);
    }
    test.everyCall();
    test.everyTest();
    test.textsShown();
    test.refusalsShown();
    Due.end();
  }

  /** The blocks of one sort, in their order on the page. */
  private List<String> blocks(String sort) {
    List<String> found = new ArrayList<>();
    Matcher m = Pattern.compile("(?ms)^```" + sort + "\n(.*?)^```$").matcher(page);
    while (m.find()) {
      found.add(m.group(1));
    }
    return found;
  }

  private void copySources(Path work) throws IOException {
    try (Stream<Path> files = Files.walk(root.resolve("src"))) {
      for (Path file : (Iterable<Path>) files.filter(Files::isRegularFile)::iterator) {
        Path to = work.resolve(root.relativize(file).toString());
        Files.createDirectories(to.getParent());
        Files.copy(file, to);
      }
    }
  }

  private static void removeAll(Path work) throws IOException {
    List<Path> all = new ArrayList<>();
    try (Stream<Path> files = Files.walk(work)) {
      files.forEach(all::add);
    }
    for (int n = all.size() - 1; n >= 0; n--) {
      Files.delete(all.get(n));
    }
  }

  /** What the commands print, if all of them go well; a machine may have words of its own beside that. */
  private static String run(Path work, String commands) throws Exception {
    Process p = new ProcessBuilder("sh", "-e", "-c", commands).directory(work.toFile())
        .redirectError(ProcessBuilder.Redirect.INHERIT).start();
    p.getOutputStream().close();
    String printed = new String(p.getInputStream().readAllBytes());
    Due.is("exit code of " + commands + printed, p.waitFor(), 0);
    return printed;
  }

  private void theFirstProgram(Path work) throws Exception {
    Due.is("programs shown", blocks("java").size(), 1);
    Due.is("commands shown", blocks("sh").size(), 3);
    Due.is("what is printed", blocks("text").size(), 1);
    Files.writeString(work.resolve("First.java"), blocks("java").get(0));
    Due.same("the first program", run(work, blocks("sh").get(0)), blocks("text").get(0));
  }

  private void oneTestAlone(Path work) throws Exception {
    String printed = run(work, blocks("sh").get(2));
    Due.is("one test alone: " + printed, printed.endsWith(" answers looked at, 0 not as due\n") ? 1 : 0, 1);
    Due.same("how all tests are run", blocks("sh").get(1), ".ci/run\n");
    Due.is(".ci/run can be run", Files.isExecutable(root.resolve(".ci/run")) ? 1 : 0, 1);
  }

  /** Each call has a line in a table, with as many arguments as it takes. */
  private void everyCall() {
    List<String> shown = new ArrayList<>();
    Matcher m = Pattern.compile("(?m)^\\| `(\\w+)\\((.*?)\\)` \\| ").matcher(page);
    while (m.find()) {
      shown.add(m.group(1) + " " + (m.group(2).isEmpty() ? 0 : m.group(2).split(", ").length));
    }
    int calls = 0;
    for (Method call : DotLines.class.getDeclaredMethods()) {
      if (Modifier.isPublic(call.getModifiers())) {
        calls++;
        String wanted = call.getName() + " " + call.getParameterCount();
        Due.is("shown: " + wanted, shown.contains(wanted) ? 1 : 0, 1);
      }
    }
    Due.is("calls shown", shown.size(), calls);
  }

  private void everyTest() throws IOException {
    try (Stream<Path> files = Files.list(root.resolve("src/test/java"))) {
      for (Path file : (Iterable<Path>) files::iterator) {
        String name = file.getFileName().toString().replace(".java", "");
        Due.is("told of: " + name, !name.endsWith("Test") || page.contains("`" + name + "`") ? 1 : 0, 1);
      }
    }
    Matcher m = Pattern.compile("`(\\w+Test)`").matcher(page);
    while (m.find()) {
      Due.is("is there: " + m.group(1), Files.exists(root.resolve("src/test/java/" + m.group(1) + ".java")) ? 1 : 0, 1);
    }
  }

  private void shown(String text) {
    Due.is("shown: " + text, page.contains("`" + text + "`") ? 1 : 0, 1);
  }

  private void textsShown() {
    shown("3*12");
    DotLines x = Due.of("3*12");
    Due.is("twelve dots", x.count(0), 12);
    Due.is("of colour 3", x.dot(11), 3);
    shown("s>4&k=1|!(d+n<2)");
    Due.text(x, 1, "A:s>4&k=1|!(d+n<2)");
    Due.is("a rule", x.ruleFault(1), -4);
  }

  /** Each refusal that the page tells of, from an object that has to answer it. */
  private void refusalsShown() {
    DotLines x = new DotLines();
    refusal(-1, x.dot(1));
    refusal(-3, x.undo());
    refusal(-4, x.sign(0));
    refusal(-11, x.reach(0));
    x.row(0, 1, 2);
    refusal(-12, x.reach(0));
    refusal(-13, x.put(0, 2, 0));
    refusal(-14, x.row(0, 0, -1));
    x.keep(1, 1, 1, 0, 2);
    refusal(-15, x.toss(1));
    Due.text(x, 2, "A:s=1");
    for (int n = 0; n < 12; n++) {
      Due.is("a rule", x.rule(2), n);
    }
    refusal(-2, x.rule(2));
    Due.is("no shelf", Due.thrown(x, 8, 0), 1);
    Due.is("no row", Due.thrown(x, 1, 0), 2);
    Due.is("no such place", Due.thrown(x, 0, 2), 2);
  }

  private void refusal(int told, int answered) {
    Due.is("a refusal", answered, told);
    Due.is("told of: " + told, page.contains("| " + told + " | ") ? 1 : 0, 1);
  }
}

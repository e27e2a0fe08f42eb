import java.lang.reflect.Constructor;
import java.lang.reflect.Field;
import java.lang.reflect.Method;
import java.lang.reflect.Modifier;
import java.nio.file.Files;
import java.nio.file.Path;
import java.util.ArrayList;
import java.util.List;
import java.util.Set;
import java.util.TreeSet;
import java.util.regex.Pattern;

/** What of LANGUAGE.md can be seen from the outside: the face, names, sizes, and words that may not stand there. */
public final class LanguageTest {
  private static final String FACE =
      "fault(int) picture(int) dot(int) paint(int,int) tone(int,int) touch(int) clean(int) faceOf(int) "
      + "face(int,int) pair(int,int,int) step(int,int,int) corners(int,int) cornered(int,int,int) "
      + "inBand(int,int,int,int) fewest(int,int,int) drawn(int,int,int) differ(int,int) breadth(int,int) "
      + "stroke(int,int) like(int,int) butFor(int,int) leader(int) few(int,int) makeFew(int) pen(int,int) "
      + "ruleFault(int) rule(int) tell(int,boolean) sign(int) undo() redo() image() restore() count(int) "
      + "keep(int,int,int,int,int) row(int,int,int) put(int,int,int) element(int,int) "
      + "copy(int,int,int,int,int) reach(int) toss(int)";
  private static final String[] NEVER = {
      "\\bcatch\\b", "\\bfinally\\b", "\\bassert\\b", "\\bsynchronized\\b", "->", "::", "\\bwhile \\(true",
      "\\bMath\\.\\w+Exact\\b", "\\bSystem\\.(?!arraycopy)", "\\bdouble\\b", "\\bfloat\\b", "\\bprotected\\b",
      "\\bequals\\b", "\\bhashCode\\b", "\\btoString\\b", "^import (?!java\\.util\\.Arrays;)", "^package\\b",
      "\\bArrays\\.(?!fill\\()", "[^\\x00-\\x7f]"};

  public static void main(String[] args) throws Exception {
    face();
    classes();
    source(Files.readAllLines(Path.of(args.length > 0 ? args[0] : ".", "src/main/java/DotLines.java")));
    Due.end();
  }

  private static String told(Method m) {
    StringBuilder text = new StringBuilder(m.getName()).append('(');
    for (int i = 0; i < m.getParameterCount(); i++) {
      text.append(i == 0 ? "" : ",").append(m.getParameterTypes()[i].getName());
    }
    return text.append(')').toString();
  }

  private static void face() throws Exception {
    Set<String> due = new TreeSet<>(List.of(FACE.split(" ")));
    Set<String> found = new TreeSet<>();
    for (Method m : DotLines.class.getDeclaredMethods()) {
      if (Modifier.isPublic(m.getModifiers())) {
        found.add(told(m));
        boolean isLong = m.getReturnType() == long.class;
        Due.is("type of " + told(m), isLong ? 1 : 0, m.getName().equals("element") ? 1 : 0);
        Due.is("int or long " + told(m), isLong || m.getReturnType() == int.class ? 1 : 0, 1);
        Due.is("told exceptions of " + told(m), m.getExceptionTypes().length, isLong ? 2 : 0);
      } else {
        Due.is("private " + told(m), Modifier.isPrivate(m.getModifiers()) ? 1 : 0, 1);
      }
    }
    Due.is("the face as the document has it: " + found, found.equals(due) ? 1 : 0, 1);
    int flags = DotLines.class.getModifiers();
    Due.is("public and final", Modifier.isPublic(flags) && Modifier.isFinal(flags) ? 1 : 0, 1);
    Constructor<?>[] made = DotLines.class.getDeclaredConstructors();
    Due.is("constructors", made.length, 1);
    Due.is("public, with nothing", made[0].getParameterCount() == 0 && Modifier.isPublic(made[0].getModifiers())
        ? 1 : 0, 1);
    for (Field f : DotLines.class.getDeclaredFields()) {
      Due.is("private " + f, Modifier.isPrivate(f.getModifiers()) ? 1 : 0, 1);
    }
  }

  private static void classes() {
    Set<String> names = new TreeSet<>();
    for (String call : FACE.split(" ")) {
      names.add(call.substring(0, call.indexOf('(')));
    }
    List<Class<?>> all = new ArrayList<>(List.of(DotLines.class.getDeclaredClasses()));
    Due.is("some twelve classes", all.size() < 13 ? 1 : 0, 1);
    for (Class<?> c : all) {
      Due.is("static " + c, Modifier.isStatic(c.getModifiers()) ? 1 : 0, 1);
      for (Method m : c.getDeclaredMethods()) {
        Due.is("a name of the face: " + c + " " + m.getName(), names.contains(m.getName()) ? 1 : 0, 0);
      }
    }
    all.add(DotLines.class);
    for (Class<?> c : all) {
      int fields = 0;
      for (Field f : c.getDeclaredFields()) {
        if (Modifier.isStatic(f.getModifiers())) {
          Due.is("final " + f, Modifier.isFinal(f.getModifiers()) ? 1 : 0, 1);
        } else {
          fields++;
        }
      }
      Due.is("some twenty fields, " + c, fields <= 20 ? 1 : 0, 1);
      for (Method m : c.getDeclaredMethods()) {
        Due.is("parameters of " + m, m.getParameterCount() <= 7 ? 1 : 0, 1);
      }
    }
    for (Method m : DotLines.class.getDeclaredMethods()) {
      boolean hidden = Modifier.isPrivate(m.getModifiers());
      Due.is("a name of the face: " + m, hidden && names.contains(m.getName()) ? 1 : 0, 0);
    }
  }

  private static void source(List<String> lines) {
    int begun = 0;
    boolean comment = false;
    for (int n = 0; n < lines.size(); n++) {
      String line = lines.get(n);
      comment = comment || line.trim().startsWith("/*");
      boolean code = !comment && !line.trim().startsWith("//");
      comment = comment && !line.contains("*/");
      for (String never : NEVER) {
        Due.is("line " + (n + 1) + " has " + never, code && Pattern.compile(never).matcher(line).find() ? 1 : 0, 0);
      }
      if (line.matches("  (  )?\\w.*\\{") && !line.contains(" class ")) {
        begun = n;
      }
      if (line.matches("  (  )?\\}") && begun > 0) {
        Due.is("lines of the method at " + (begun + 1), n - begun < 60 ? 1 : 0, 1);
        begun = 0;
      }
    }
  }
}

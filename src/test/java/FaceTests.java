import java.lang.reflect.Constructor;
import java.lang.reflect.Field;
import java.lang.reflect.Method;
import java.lang.reflect.Modifier;
import java.nio.file.Files;
import java.nio.file.Path;
import java.util.ArrayList;
import java.util.HashSet;
import java.util.List;
import java.util.Set;
import java.util.regex.Matcher;
import java.util.regex.Pattern;

/** The face that the document tells, and those rules of LANGUAGE.md that can be seen in the class or its text. */
public final class FaceTests {
  public static void main(String[] args) throws Exception {
    face(Files.readString(Path.of(System.getProperty("winter.doc"))));
    classesInside();
    source(Files.readString(Path.of(System.getProperty("winter.source"))));
    makesNothing();
    Check.end("FaceTests");
  }

  private static void face(String doc) {
    String block = doc.substring(doc.indexOf("public final class WinterTellers {"));
    block = block.substring(0, block.indexOf("```"));
    Set<String> due = new HashSet<>();
    Matcher m = Pattern.compile("public (int|boolean) (\\w+)\\(([^)]*)\\)( throws NoSuchElementException)?;").matcher(block);
    while (m.find()) {
      String types = m.group(3).replaceAll(" \\w+(,|$)", "$1").replace(" ", "");
      due.add(m.group(1) + " " + m.group(2) + "(" + types + ")" + (m.group(4) == null ? "" : "!"));
    }
    Check.due("methods in the document", due.size(), 39);
    Set<String> got = new HashSet<>();
    Set<String> hidden = new HashSet<>();
    for (Method method : WinterTellers.class.getDeclaredMethods()) {
      if (Modifier.isPrivate(method.getModifiers())) {
        hidden.add(method.getName());
        continue;
      }
      StringBuilder types = new StringBuilder();
      for (Class<?> type : method.getParameterTypes()) {
        types.append(types.length() == 0 ? "" : ",").append(type.getName());
      }
      got.add(method.getReturnType() + " " + method.getName() + "(" + types + ")"
          + (method.getExceptionTypes().length == 0 ? "" : "!"));
      Check.due(method + " is public", Modifier.isPublic(method.getModifiers()), true);
      Check.due(method + " is of the object", Modifier.isStatic(method.getModifiers()), false);
    }
    Check.due("the face " + got, got.equals(due), true);
    for (String name : due) {
      Check.due("no private method bears a public name: " + name, hidden.contains(name.replaceAll(".* |\\(.*", "")), false);
    }
    Check.due("final", Modifier.isFinal(WinterTellers.class.getModifiers()), true);
    Constructor<?>[] made = WinterTellers.class.getDeclaredConstructors();
    Check.due("one constructor", made.length == 1 && made[0].getParameterCount() == 0
        && Modifier.isPublic(made[0].getModifiers()), true);
    List<String> constants = new ArrayList<>();
    for (Field field : WinterTellers.class.getDeclaredFields()) {
      if (!Modifier.isPrivate(field.getModifiers())) {
        constants.add(field.getName());
      }
    }
    constants.sort(null);
    Check.due("constants " + constants, constants.equals(List.of("HIDDEN", "NONE")), true);
    Check.due("NONE", WinterTellers.NONE, -1);
    Check.due("HIDDEN", WinterTellers.HIDDEN, -1000000);
  }

  private static void classesInside() {
    Set<String> names = new HashSet<>();
    for (Method method : WinterTellers.class.getDeclaredMethods()) {
      if (Modifier.isPublic(method.getModifiers())) {
        names.add(method.getName());
      }
    }
    Class<?>[] inside = WinterTellers.class.getDeclaredClasses();
    Check.due("some twelve classes", inside.length <= 12, true);
    List<Class<?>> all = new ArrayList<>(List.of(inside));
    all.add(WinterTellers.class);
    for (Class<?> c : all) {
      Check.due(c + " is static", c == WinterTellers.class || Modifier.isStatic(c.getModifiers()), true);
      int fields = 0;
      for (Field field : c.getDeclaredFields()) {
        if (Modifier.isStatic(field.getModifiers())) {
          Check.due(field + " is final", Modifier.isFinal(field.getModifiers()), true);
        } else {
          fields++;
        }
      }
      Check.due("fields of " + c + ": " + fields, fields <= 20, true);
      for (Method method : c.getDeclaredMethods()) {
        Check.due("parameters of " + method, method.getParameterCount() <= 7, true);
        Check.due("the name of " + method, c != WinterTellers.class && names.contains(method.getName()), false);
      }
    }
  }

  private static void source(String text) {
    String code = text.replaceAll("(?s)/\\*.*?\\*/", "").replaceAll("//.*", "").replaceAll("'.'|'\\\\.'", "'x'");
    String[] banned = {"->", "::", "\"", "finally", "synchronized", "assert ", "catch", "System.out", "currentTimeMillis",
      "nanoTime", "Random", "Thread", "Exact(", "toString", "hashCode", ".equals", "static {", "package "};
    for (String word : banned) {
      Check.due("'" + word + "' in the class", code.contains(word), false);
    }
    int throwing = code.split("throw new ", -1).length - 1;
    Check.due("throws", throwing, 1);
    Check.due("what it throws", code.contains("throw new NoSuchElementException()"), true);
    Matcher imports = Pattern.compile("import ([\\w.]+);").matcher(code);
    while (imports.find()) {
      String name = imports.group(1);
      Check.due("import " + name, name.equals("java.util.Arrays") || name.equals("java.util.NoSuchElementException"), true);
    }
    int start = 0;
    String[] lines = text.split("\n");
    for (int i = 0; i < lines.length; i++) {
      if (lines[i].matches(" {4,8}(public|private|static|int|boolean|void|[A-Z]\\w+\\().*\\) .*\\{")) {
        start = i;
      }
      if (lines[i].matches(" {4,8}\\}")) {
        Check.due("a short method up to line " + (i + 1), i - start <= 60 || lines[i].startsWith("    }"), true);
      }
    }
  }

  /** Objects are made by the constructor alone: all calls of a run live in one room. */
  private static void makesNothing() {
    com.sun.management.ThreadMXBean bean =
        (com.sun.management.ThreadMXBean) java.lang.management.ManagementFactory.getThreadMXBean();
    long self = Thread.currentThread().getId();
    WinterTellers x = Check.coast("sb99;h;hc9k5;h;hk63;h;h;t;tl9;tk9r1;t;t;t");
    Check.law(x, "y:l>3&!(k=2|n>3)?[l+k]*2-n;y:l+k-n");
    long before = 0;
    long after = 0;
    for (int i = 0; i < 3; i++) {
      before = bean.getThreadAllocatedBytes(self);
      allCalls(x);
      after = bean.getThreadAllocatedBytes(self);
    }
    Check.due("bytes made by calls: " + (after - before), after - before < 1000, true);
  }

  private static void allCalls(WinterTellers x) {
    x.feed(0x793A6C00, 0, 0, 0, 0);
    x.fault(0);
    x.fault(1);
    x.text(1);
    x.end(0);
    x.law(0);
    x.house(0, 0);
    x.tale(0, 0);
    x.heard(0, 0);
    x.nights(0, 0);
    x.tells(0);
    x.goes(1);
    x.learns(0);
    x.ties(0);
    x.rest();
    x.give(3);
    x.years(60, 9);
    x.undo();
    x.log(0, 0);
    x.best(0, 0);
    x.two(0);
    x.places(0);
    x.fewest(3);
    x.seen(0, 0, true);
    x.told(0);
    x.ask(3);
    x.game(0, 0, 0, 0);
    x.rests(0, 0);
    x.odds(0, 0, 3, 3);
    x.reach();
    x.shares(0, 5);
    x.fresh(0, 0);
    x.where(0, 4);
    x.round(0);
    for (int i = 0; i < 9; i++) {
      x.most(i);
    }
    x.image();
    x.back();
    x.count(3);
  }
}

import java.io.IOException;
import java.lang.reflect.Constructor;
import java.lang.reflect.Field;
import java.lang.reflect.Method;
import java.lang.reflect.Modifier;
import java.nio.file.Files;
import java.nio.file.Path;
import java.util.ArrayList;
import java.util.List;
import java.util.Set;
import java.util.TreeSet;
import java.util.regex.Matcher;
import java.util.regex.Pattern;

/** The rules of LANGUAGE.md that can be seen from outside, and the room that a run takes. */
public final class RulesTest {
  private static final Due due = new Due("RulesTest");
  private static final long MOST_BYTES = 3_000_000L;

  public static void main(String[] args) throws IOException {
    Path root = Path.of(args.length > 0 ? args[0] : ".");
    String source = Files.readString(root.resolve("src/main/java/RedMarks.java"));
    face(root.resolve("../shared/DOC.md"), source);
    members();
    words(source.replaceAll("(?s)/\\*.*?\\*/", "").replaceAll("//[^\n]*", ""));
    lengths(source);
    room();
    due.finish();
  }

  private static void face(Path doc, String source) throws IOException {
    due.part("rule 1, the document's face");
    String text = Files.readString(doc);
    String block = text.substring(text.indexOf("```java"), text.indexOf("## Terms"));
    Set<String> wanted = new TreeSet<>();
    Matcher m = Pattern.compile("public int (\\w+)\\(([^)]*)\\);").matcher(block);
    while (m.find()) {
      wanted.add(m.group(1) + (m.group(2).isBlank() ? 0 : m.group(2).split(",").length));
    }
    Set<String> found = new TreeSet<>();
    for (Method method : RedMarks.class.getDeclaredMethods()) {
      if (Modifier.isPublic(method.getModifiers())) {
        due.holds(method + " is of the object", !Modifier.isStatic(method.getModifiers()));
        due.holds(method + " answers int", method.getReturnType() == int.class);
        found.add(method.getName() + method.getParameterCount());
      }
    }
    Matcher member = Pattern.compile("public [^;{]*(?=;| \\{)").matcher(block);
    while (member.find()) {
      due.holds(member.group() + " stands word for word", source.contains(member.group()));
    }
    due.is("calls", wanted.size(), 51);
    due.holds("calls are " + wanted + ", found " + found, wanted.equals(found));
    due.holds("final", Modifier.isFinal(RedMarks.class.getModifiers()));
    Constructor<?>[] constructors = RedMarks.class.getDeclaredConstructors();
    due.is("constructors", constructors.length, 1);
    due.holds("public constructor", Modifier.isPublic(constructors[0].getModifiers()));
  }

  private static void members() {
    due.part("rules 1, 2, 5, 11");
    Set<String> face = new TreeSet<>();
    for (Method method : RedMarks.class.getDeclaredMethods()) {
      if (Modifier.isPublic(method.getModifiers())) {
        face.add(method.getName());
      } else {
        due.holds(method + " is private", Modifier.isPrivate(method.getModifiers()));
      }
    }
    for (Field field : RedMarks.class.getDeclaredFields()) {
      boolean hidden = Modifier.isPrivate(field.getModifiers());
      due.holds(field + " is private", hidden || field.getName().equals("NONE"));
    }
    List<Class<?>> classes = new ArrayList<>(List.of(RedMarks.class.getDeclaredClasses()));
    due.holds("classes: " + classes.size(), classes.size() <= 12);
    for (Class<?> inside : classes) {
      due.holds(inside + " is static", Modifier.isStatic(inside.getModifiers()));
      due.holds(inside + " is not public", !Modifier.isPublic(inside.getModifiers()));
    }
    classes.add(RedMarks.class);
    for (Class<?> each : classes) {
      int fields = 0;
      for (Field field : each.getDeclaredFields()) {
        boolean fixed = Modifier.isStatic(field.getModifiers());
        fields += fixed ? 0 : 1;
        due.holds(field + " is final", !fixed || Modifier.isFinal(field.getModifiers()));
      }
      due.holds(each + " has " + fields + " fields", fields <= 20);
      for (Method method : each.getDeclaredMethods()) {
        due.holds(method + " has few parameters", method.getParameterCount() <= 7);
        boolean own = each == RedMarks.class && Modifier.isPublic(method.getModifiers());
        due.holds(method + " has a name of its own", own || !face.contains(method.getName()));
      }
    }
  }

  private static void words(String code) {
    due.part("rules 3, 4, 6, 13");
    String[] never = {"\\bthrow\\b", "\\bthrows\\b", "\\btry\\b", "\\bcatch\\b", "\\bfinally\\b",
        "\\bsynchronized\\b", "\\bassert\\b", "->", "::", "@", "\\bpackage\\b", "\\bprotected\\b",
        "\\binstanceof\\b", "Exact", "Exception", "\\bObject\\b", "\\bdouble\\b", "\\bfloat\\b",
        "hashCode", "toString", "\\bequals\\b", "static \\{", "\\bvar\\b", "\\bThread\\b",
        "currentTime", "nanoTime", "Random", "\\[\\]\\[\\]", "\\bString\\[\\]", "while \\(true"};
    for (String word : never) {
      Matcher m = Pattern.compile(word).matcher(code);
      due.holds("no " + word, !m.find());
    }
    allowed(code, "import ([^;]*);", "java.util.Arrays");
    allowed(code, "\\bSystem\\.(\\w+)", "arraycopy");
    allowed(code, "\\bArrays\\.(\\w+)", "fill copyOf");
    allowed(code, "\\bMath\\.(\\w+)", "min max abs");
    allowed(code, "\\bInteger\\.(\\w+)", "bitCount compare min max abs");
    due.holds("signs 1 to 127 alone", code.chars().allMatch(sign -> sign > 0 && sign < 128));
  }

  private static void allowed(String code, String use, String names) {
    List<String> fine = List.of(names.split(" "));
    Matcher m = Pattern.compile(use).matcher(code);
    while (m.find()) {
      due.holds(m.group() + " is of the library", fine.contains(m.group(1)));
    }
  }

  private static void lengths(String source) {
    due.part("rule 11, lengths");
    String begin = "";
    int since = 0;
    String[] lines = source.split("\n");
    for (int n = 0; n < lines.length; n++) {
      if (lines[n].matches("( {4}| {8})\\S.*\\) \\{") || lines[n].matches("( {4}| {8})(public|private)[^;=]*\\(.*")) {
        begin = lines[n];
        since = n;
      }
      if (lines[n].matches("( {4}| {8})\\}")) {
        due.holds(begin.strip() + " is short", n - since <= 60);
      }
    }
  }

  /** The dearest runs: all that is made lives in one room. */
  private static void room() {
    due.part("room");
    com.sun.management.ThreadMXBean bean =
        (com.sun.management.ThreadMXBean) java.lang.management.ManagementFactory.getThreadMXBean();
    if (!bean.isThreadAllocatedMemorySupported()) {
      return;
    }
    long thread = Thread.currentThread().getId();
    long before = bean.getThreadAllocatedBytes(thread);
    RedMarks x = new RedMarks();
    fill(x);
    long most = bean.getThreadAllocatedBytes(thread) - before;
    due.holds("a full library took " + most + " bytes", most < MOST_BYTES);
    before = bean.getThreadAllocatedBytes(thread);
    x = new RedMarks();
    x.image(0);
    for (int n = 0; n < 102; n++) {
      x.feed(0x6f757273, 0x20312b31, 0x2b312b31, 0x2b312b31, 0x2b312b31);
      x.feed(0x2b312b31, 0x2b312b31, 0x2b312b31, 0x2b312b31, 0x2b312b31);
      x.end(40);
      due.is("text", x.text(), 0);
      x.back(0);
    }
    most = bean.getThreadAllocatedBytes(thread) - before;
    due.holds("many texts took " + most + " bytes", most < MOST_BYTES);
  }

  private static void fill(RedMarks x) {
    for (int n = 0; n < 40; n++) {
      x.book(n % 9, n + 1, n, 1, 1);
    }
    for (int n = 0; n < 12; n++) {
      x.line(0, 0, 1, -1, -1);
      x.match(0);
    }
    for (int n = 0; n < 9; n++) {
      x.stack(n);
    }
    for (int n = 0; n < 8; n++) {
      Due.text(x, "bay letter;place number;shelf star");
    }
    x.keep(0, 0, 0);
    for (int n = 0; n < 60; n++) {
      x.fact(n % 40, 9, 1);
      x.match(1);
      x.matched(0, 1);
      x.best(0);
      x.beside(-1);
      x.close(-1, -1);
    }
  }
}

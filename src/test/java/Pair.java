import java.lang.reflect.InvocationTargetException;
import java.lang.reflect.Method;
import java.lang.reflect.Modifier;
import java.util.ArrayList;
import java.util.Arrays;
import java.util.List;
import java.util.Map;
import java.util.Set;
import java.util.TreeMap;

/** A RedMarks and an Oracle on which the same is called: both have to answer alike. */
final class Pair {
  private static final Map<String, Method> REAL = methods(RedMarks.class);
  private static final Map<String, Method> PLAIN = methods(Oracle.class);

  final List<String> calls = new ArrayList<>();
  private final RedMarks one = new RedMarks();
  private final Oracle other = new Oracle();
  private final Due due;
  private boolean alike = true;

  Pair(Due due) {
    this.due = due;
  }

  /** The names of all calls of the document. */
  static Set<String> names() {
    return REAL.keySet();
  }

  static boolean haveTheSameCalls() {
    return REAL.keySet().equals(PLAIN.keySet());
  }

  private static Map<String, Method> methods(Class<?> of) {
    Map<String, Method> found = new TreeMap<>();
    for (Method m : of.getDeclaredMethods()) {
      if (Modifier.isPublic(m.getModifiers())) {
        m.setAccessible(true);
        found.put(m.getName(), m);
      }
    }
    return found;
  }

  boolean isAlike() {
    return alike;
  }

  /** What is due. */
  int call(String name, int... arguments) throws IllegalAccessException {
    Object[] boxed = Arrays.stream(arguments).boxed().toArray();
    String told = name + Arrays.toString(arguments);
    int want = 0;
    try {
      want = (Integer) PLAIN.get(name).invoke(other, boxed);
      calls.add(told + " = " + want);
      int got = (Integer) REAL.get(name).invoke(one, boxed);
      due.is(told, got, want);
      alike &= got == want;
    } catch (InvocationTargetException e) {
      due.is(told + " threw " + e.getCause(), 1, 0);
      e.getCause().printStackTrace(System.out);
      alike = false;
    }
    return want;
  }

  /** Feeds bytes (characters 0 to 255) behind the tape, which is as long as they are then. */
  void tape(String bytes) throws IllegalAccessException {
    StringBuilder padded = new StringBuilder(bytes);
    while (padded.length() % 20 != 0) {
      padded.append(' ');
    }
    for (int at = 0; at < padded.length(); at += 20) {
      int[] fours = new int[5];
      for (int i = 0; i < 20; i++) {
        fours[i / 4] = fours[i / 4] << 8 | padded.charAt(at + i);
      }
      call("feed", fours);
    }
    call("end", bytes.length());
  }

  /** Says what was called, if the two did not answer alike. */
  void tellIfUnlike() {
    if (!alike) {
      calls.forEach(System.out::println);
    }
  }
}

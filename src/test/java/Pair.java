import java.lang.reflect.InvocationTargetException;
import java.lang.reflect.Method;
import java.util.ArrayList;
import java.util.Arrays;
import java.util.HashMap;
import java.util.List;
import java.util.Map;

/** A FootNotes and a NaiveTown that are asked the same; the first answer that differs is told with all calls ahead of it. */
final class Pair {
  private static final Map<String, Method> OURS = methods(FootNotes.class);
  private static final Map<String, Method> NAIVE = methods(NaiveTown.class);

  private final FootNotes ours = new FootNotes();
  private final NaiveTown naive = new NaiveTown();
  private final List<String> log = new ArrayList<>();
  private boolean differs = false;

  private static Map<String, Method> methods(Class<?> who) {
    Map<String, Method> out = new HashMap<>();
    for (Method m : who.getMethods()) if (m.getDeclaringClass() == who) out.put(m.getName(), m);
    return out;
  }

  static Iterable<Method> face() { return OURS.values(); }

  boolean differs() { return differs; }

  /** How many there are, as count() tells it. */
  int number(int what) { return naive.count(what); }

  int calls() { return log.size(); }

  void call(String name, Object... args) {
    if (differs) return;
    log.add(name + Arrays.toString(args));
    String got = answer(OURS.get(name), ours, args);
    String want = answer(NAIVE.get(name), naive, args);
    if (got.equals(want)) return;
    differs = true;
    for (String line : log) System.out.println("  " + line);
    System.out.println("the last answered " + got + ", NaiveTown says " + want);
  }

  private static String answer(Method m, Object who, Object[] args) {
    try {
      return String.valueOf(m.invoke(who, args));
    } catch (InvocationTargetException e) {
      return String.valueOf(e.getCause());
    } catch (IllegalAccessException e) {
      throw new IllegalStateException(e);
    }
  }

  void tell(byte[] text) {
    call("end", 0);
    for (int at = 0; at < text.length; at += 20) {
      java.nio.ByteBuffer b = java.nio.ByteBuffer.wrap(Arrays.copyOfRange(text, at, at + 20));
      call("feed", b.getInt(), b.getInt(), b.getInt(), b.getInt(), b.getInt());
    }
    call("end", text.length);
    call("town");
    call("fault", 0);
    call("fault", 1);
  }
}

import java.lang.reflect.Constructor;
import java.lang.reflect.Field;
import java.lang.reflect.Method;
import java.lang.reflect.Modifier;
import java.nio.file.Files;
import java.nio.file.Path;
import java.util.ArrayList;
import java.util.Arrays;
import java.util.List;
import java.util.TreeSet;
import java.util.regex.Matcher;
import java.util.regex.Pattern;

/** The class shows what the document's face shows, and nothing else. */
public final class FaceTest {
  private static final Path DOCUMENT = Path.of("../shared/DOC.md");

  public static void main(String[] args) throws Exception {
    List<String> wrong = new ArrayList<>();
    TreeSet<String> wanted = wantedMethods();
    TreeSet<String> shown = new TreeSet<>();
    for (Method m : FootNotes.class.getDeclaredMethods()) {
      if (Modifier.isPublic(m.getModifiers())) shown.add(signature(m));
      else if (!Modifier.isPrivate(m.getModifiers())) wrong.add("neither public nor private: " + m);
    }
    if (wanted.size() != 64) wrong.add("the document lists " + wanted.size() + " methods, not 64");
    if (!wanted.equals(shown)) wrong.add("methods due: " + wanted + "\nmethods shown: " + shown);
    privateNames(wrong);
    fields(wrong);
    Constructor<?>[] constructors = FootNotes.class.getDeclaredConstructors();
    if (constructors.length != 1 || !Modifier.isPublic(constructors[0].getModifiers()) || constructors[0].getParameterCount() != 0)
      wrong.add("constructors: " + Arrays.toString(constructors));
    int modifiers = FootNotes.class.getModifiers();
    if (!Modifier.isFinal(modifiers) || !Modifier.isPublic(modifiers)) wrong.add("the class is not public and final");
    for (String w : wrong) System.out.println(w);
    System.out.println("FaceTest: " + (wrong.isEmpty() ? "the face is the document's" : wrong.size() + " faults"));
    if (!wrong.isEmpty()) System.exit(1);
  }

  private static TreeSet<String> wantedMethods() throws Exception {
    TreeSet<String> out = new TreeSet<>();
    Matcher m = Pattern.compile("(?m)^    public (\\w+) (\\w+)\\((.*)\\);$").matcher(Files.readString(DOCUMENT));
    while (m.find()) out.add(m.group(1) + " " + m.group(2) + "(" + m.group(3).replaceAll("(\\w+) \\w+", "$1") + ")");
    return out;
  }

  private static String signature(Method m) {
    List<String> types = new ArrayList<>();
    for (Class<?> t : m.getParameterTypes()) types.add(t.getName());
    return m.getReturnType().getName() + " " + m.getName() + "(" + String.join(", ", types) + ")";
  }

  private static void privateNames(List<String> wrong) {
    TreeSet<String> shown = new TreeSet<>();
    for (Method m : FootNotes.class.getMethods()) shown.add(m.getName());
    List<Class<?>> classes = new ArrayList<>(List.of(FootNotes.class.getDeclaredClasses()));
    classes.add(FootNotes.class);
    for (Class<?> c : classes) {
      if (c != FootNotes.class && !Modifier.isStatic(c.getModifiers())) wrong.add("not static: " + c);
      for (Method m : c.getDeclaredMethods())
        if (!Modifier.isPublic(m.getModifiers()) && shown.contains(m.getName())) wrong.add("bears a public name: " + m);
    }
  }

  private static void fields(List<String> wrong) throws Exception {
    for (Field f : FootNotes.class.getDeclaredFields())
      if (!f.getName().equals("NONE") && !Modifier.isPrivate(f.getModifiers())) wrong.add("not private: " + f);
    Field none = FootNotes.class.getField("NONE");
    int modifiers = none.getModifiers();
    if (none.getType() != int.class || none.getInt(null) != -1 || !Modifier.isStatic(modifiers) || !Modifier.isFinal(modifiers))
      wrong.add("NONE is not as due");
  }
}

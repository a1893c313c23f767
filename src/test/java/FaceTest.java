import java.io.IOException;
import java.lang.reflect.Constructor;
import java.lang.reflect.Field;
import java.lang.reflect.Method;
import java.lang.reflect.Modifier;
import java.nio.file.Files;
import java.nio.file.Path;
import java.util.Map;
import java.util.Set;
import java.util.TreeSet;
import java.util.function.Function;
import java.util.regex.Matcher;
import java.util.regex.Pattern;
import java.util.stream.Collectors;
import java.util.stream.Stream;

/** The public face against the one that ../shared/DOC.md prints, and the rules of LANGUAGE.md that a text shows. */
public final class FaceTest {
  private static final Map<String, String> FORBIDDEN = Map.ofEntries(
      Map.entry("rule 2, no lambda", "->"),
      Map.entry("rule 2, no method reference", "\\w::\\w"),
      Map.entry("rule 4, no other import", "import (?!java\\.util\\.NoSuchElementException;)"),
      Map.entry("rule 4, no exact arithmetic", "Exact\\("),
      Map.entry("rule 5, no static block", "static \\{"),
      Map.entry("rule 6, nothing is caught", "\\b(try|catch|finally|synchronized|assert)\\b"),
      Map.entry("rule 6, own texts alone", "throw (?!new \\w+\\((\"[^\"]*\")?\\);)"),
      Map.entry("rule 9, loops that count", "\\bwhile\\b"),
      Map.entry("rule 10, texts are not joined by +", "\"\\s*\\+|\\+\\s*\""),
      Map.entry("rule 13, no surroundings", "\\b(Thread|Random|System\\.(?!arraycopy)|Runtime|File)\\b"));

  /** The types of constants that rule 5 allows, beside rows of numbers, of which there are none. */
  private static final Set<Class<?>> CONSTANTS = Set.of(int.class, long.class, boolean.class, char.class, String.class);

  private FaceTest() {
  }

  public static void main(String[] args) throws IOException {
    String document = Files.readString(Path.of("../shared/DOC.md"));
    String source = Files.readString(Path.of("src/main/java/LiftGroup.java"));
    face(document);
    signatures(document, source);
    text(source);
    shape(LiftGroup.class);
    Checks.yes("rule 11, classes", LiftGroup.class.getDeclaredClasses().length < 12);
    for (Class<?> inside : LiftGroup.class.getDeclaredClasses()) {
      Checks.same("rule 11, no classes in " + inside, inside.getDeclaredClasses().length, 0);
      shape(inside);
    }
    Checks.end();
  }

  /** Each signature as the document writes it, with the names of its parameters, stands once in the source. */
  private static void signatures(String document, String source) {
    String code = source.replaceAll("\\s+", " ");
    Matcher lines = Pattern.compile("^    (public .*\\(.*);$", Pattern.MULTILINE).matcher(document);
    int count = 0;
    while (lines.find()) {
      String wanted = lines.group(1) + " {";
      Checks.yes(wanted, code.contains(wanted) && code.indexOf(wanted) == code.lastIndexOf(wanted));
      count++;
    }
    Checks.same("signatures in the source", count, 60);
  }

  /** What reflection shows of the rules 3, 5 and 11. */
  private static void shape(Class<?> c) {
    int fields = 0;
    for (Field f : c.getDeclaredFields()) {
      if (Modifier.isStatic(f.getModifiers())) {
        Checks.yes("rule 5, a constant: " + f, Modifier.isFinal(f.getModifiers()) && CONSTANTS.contains(f.getType()));
      } else {
        fields++;
        Checks.yes("rule 3: " + f, f.getType().isPrimitive() || f.getType().isArray()
            || f.getType() == StringBuilder.class || f.getType().getEnclosingClass() == LiftGroup.class);
      }
    }
    Checks.yes("rule 11, fields of " + c, fields <= 20);
    for (Method m : c.getDeclaredMethods()) {
      Checks.yes("rule 11, parameters of " + m, m.getParameterCount() <= 7);
    }
  }

  private static void face(String document) {
    Set<String> due = new TreeSet<>();
    Matcher lines = Pattern.compile("^    public (.*);$", Pattern.MULTILINE).matcher(document);
    while (lines.find()) {
      due.add(lines.group(1).replaceAll("(\\w+) \\w+(?=(,[^()]*)?\\))", "$1"));
    }
    Set<String> got = new TreeSet<>();
    Set<String> hidden = new TreeSet<>();
    for (Constructor<?> c : LiftGroup.class.getDeclaredConstructors()) {
      got.add("LiftGroup" + parameters(c.getParameterTypes(), c.getExceptionTypes()));
    }
    for (Method m : LiftGroup.class.getDeclaredMethods()) {
      if (Modifier.isPublic(m.getModifiers())) {
        got.add(m.getReturnType().getName() + " " + m.getName()
            + parameters(m.getParameterTypes(), m.getExceptionTypes()));
      } else {
        Checks.yes("private: " + m, Modifier.isPrivate(m.getModifiers()));
        hidden.add(m.getName());
      }
    }
    Checks.same("signatures", due.size(), 60);
    Checks.same("the face", got.toString(), due.toString());
    for (String signature : due) {
      String name = signature.replaceAll("\\(.*", "").replaceAll(".* ", "");
      Checks.yes("no private method " + name, !hidden.contains(name));
    }
    Checks.yes("public and final", LiftGroup.class.getModifiers() == (Modifier.PUBLIC | Modifier.FINAL));
    for (Field f : LiftGroup.class.getDeclaredFields()) {
      Checks.yes("private: " + f, Modifier.isPrivate(f.getModifiers()));
    }
    for (Class<?> c : LiftGroup.class.getDeclaredClasses()) {
      Checks.yes("static, not public: " + c,
          Modifier.isStatic(c.getModifiers()) && !Modifier.isPublic(c.getModifiers()));
    }
  }

  private static String parameters(Class<?>[] types, Class<?>[] exceptions) {
    Function<Class<?>[], String> names =
        classes -> Stream.of(classes).map(Class::getSimpleName).collect(Collectors.joining(", "));
    return "(" + names.apply(types) + ")" + (exceptions.length == 0 ? "" : " throws " + names.apply(exceptions));
  }

  private static void text(String source) {
    String code = source.replaceAll("(?s)/\\*.*?\\*/", "").replaceAll("//[^\n]*", "");
    FORBIDDEN.forEach((rule, pattern) -> {
      Matcher m = Pattern.compile(pattern).matcher(code);
      Checks.yes(rule, !m.find());
    });
    Checks.yes("no sign beyond 127", code.chars().allMatch(sign -> sign < 128));
  }
}

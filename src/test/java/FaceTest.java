import java.io.IOException;
import java.lang.reflect.Constructor;
import java.lang.reflect.Field;
import java.lang.reflect.Method;
import java.lang.reflect.Modifier;
import java.nio.charset.StandardCharsets;
import java.nio.file.Files;
import java.nio.file.Path;
import java.util.Arrays;
import java.util.HashSet;
import java.util.Set;
import java.util.TreeSet;
import java.util.stream.Collectors;

/** The public face of the document, and the rules of LANGUAGE.md that can be looked up. */
public final class FaceTest {
  private static final String FACE = """
      int deal(int, int)
      int letter(int, int)
      boolean beside(int, int)
      int spell(int, int, int, int, int)
      int unspell()
      int add(int)
      int drop(int)
      int count(int, int)
      int pair(int, int, int)
      int word(int, int)
      int paired(int, int)
      int find()
      int many(int)
      int share(int)
      int price(int, int)
      int press(int)
      int back()
      int offers(int, int)
      int offer(int, int, int)
      int priced(int, int)
      int take(int, int, int)
      int third()
      int newcomer()
      int put(int)
      int wipe()
      int text(int)
      int cost(int, int)
      int fewest()
      int plan(int)
      int taps()
      int best()
      int swap()
      int clash()
      int clashing(int)
      int clashes()
      """;

  public static void main(String[] args) throws IOException {
    constants();
    methods();
    members();
    classesInside();
    source();
    Check.finish();
  }

  private static void constants() {
    Check.due("NUMBER", NineKeys.NUMBER, -1);
    Check.due("FULL", NineKeys.FULL, -2);
    Check.due("TWICE", NineKeys.TWICE, -3);
    Check.due("STATE", NineKeys.STATE, -4);
    Check.due("KIND", NineKeys.KIND, -5);
    Check.due("NONE", NineKeys.NONE, -6);
    int open = 0;
    for (Field field : NineKeys.class.getDeclaredFields()) {
      if (!Modifier.isPrivate(field.getModifiers())) {
        open++;
        Check.due(field + " is public, static and final", field.getModifiers(),
            Modifier.PUBLIC | Modifier.STATIC | Modifier.FINAL);
      }
      if (Modifier.isStatic(field.getModifiers())) {
        Check.due(field + " is final", Modifier.isFinal(field.getModifiers()), true);
      }
    }
    Check.due("public constants", open, 6);
  }

  private static String signature(Method method) {
    String types = Arrays.stream(method.getParameterTypes()).map(Class::getSimpleName)
        .collect(Collectors.joining(", "));
    return method.getReturnType().getSimpleName() + " " + method.getName() + "(" + types + ")";
  }

  private static void methods() {
    Set<String> want = new TreeSet<>(FACE.lines().toList());
    Set<String> got = new TreeSet<>();
    for (Method method : NineKeys.class.getDeclaredMethods()) {
      if (!Modifier.isPrivate(method.getModifiers())) {
        got.add(signature(method));
        Check.due(method + " is public and of the object", method.getModifiers(), Modifier.PUBLIC);
      }
    }
    if (!want.equals(got)) {
      Check.due("the face is " + got + ", due is " + want, 0, 1);
    }
    Constructor<?>[] made = NineKeys.class.getDeclaredConstructors();
    Check.due("constructors", made.length, 1);
    Check.due("its parameters", made[0].getParameterCount(), 0);
    Check.due("it is public", made[0].getModifiers(), Modifier.PUBLIC);
    Check.due("the class is public and final", NineKeys.class.getModifiers(), Modifier.PUBLIC | Modifier.FINAL);
  }

  /** Rules 1 and 11: names of private methods, parameters, fields. */
  private static void members() {
    Set<String> names = FACE.lines().map(line -> line.replaceAll("^\\w+ (\\w+)\\(.*", "$1"))
        .collect(Collectors.toCollection(HashSet::new));
    Set<Class<?>> all = new HashSet<>(Arrays.asList(NineKeys.class.getDeclaredClasses()));
    all.add(NineKeys.class);
    for (Class<?> one : all) {
      for (Method method : one.getDeclaredMethods()) {
        if (one != NineKeys.class || Modifier.isPrivate(method.getModifiers())) {
          Check.due(method + " has a name of its own", names.contains(method.getName()), false);
        }
        Check.due(method + " has at most seven parameters", method.getParameterCount() <= 7, true);
      }
      long fields = Arrays.stream(one.getDeclaredFields())
          .filter(field -> !Modifier.isStatic(field.getModifiers())).count();
      Check.due(one + " has at most twenty fields", fields <= 20, true);
    }
  }

  /** Rules 1, 2 and 11: the classes inside. */
  private static void classesInside() {
    Class<?>[] inside = NineKeys.class.getDeclaredClasses();
    Check.due("at most twelve classes", inside.length <= 11, true);
    for (Class<?> one : inside) {
      Check.due(one + " is static", Modifier.isStatic(one.getModifiers()), true);
      Check.due(one + " is not public", Modifier.isPublic(one.getModifiers()), false);
      Check.due(one + " has no class inside", one.getDeclaredClasses().length, 0);
    }
  }

  /** Rules 2, 4, 6, 9 and 11, as far as the text of the file shows them. */
  private static void source() throws IOException {
    Path path = Path.of("src/main/java/NineKeys.java");
    String text = Files.readString(path, StandardCharsets.US_ASCII);
    String code = text.replaceAll("(?s)/\\*.*?\\*/", "").replaceAll("//[^\n]*", "");
    String[] unused = {"->", "::", "catch", "throw", "finally", "synchronized", "assert", "Exact", "package ",
        "hashCode", "toString", "while (true)", "for (;;)", "static {", "double"};
    for (String sign : unused) {
      Check.due("the file has " + sign, code.contains(sign), false);
    }
    for (String line : code.lines().toList()) {
      if (line.startsWith("import ")) {
        Check.due(line, line.equals("import java.util.Arrays;"), true);
      }
    }
    int size = 0;
    for (String line : text.lines().toList()) {
      boolean ends = line.equals("    }") || line.equals("        }") || line.isBlank();
      size = ends ? 0 : size + 1;
      Check.due("a method is too long at: " + line, size <= 60, true);
    }
  }
}

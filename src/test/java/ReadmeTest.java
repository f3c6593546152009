import java.io.IOException;
import java.lang.reflect.Method;
import java.lang.reflect.Modifier;
import java.nio.file.Files;
import java.nio.file.Path;
import java.util.Arrays;
import java.util.regex.Matcher;
import java.util.regex.Pattern;

/** README.md: each call of its example answers what stands behind it, and each call of the face is named. */
public final class ReadmeTest {
  private static final Pattern CALL = Pattern.compile("x\\.(\\w+)\\(([-\\d, ]*)\\);\\s*// (-?\\d+).*");

  public static void main(String[] args) throws IOException, ReflectiveOperationException {
    String text = Files.readString(Path.of("README.md"));
    NineKeys x = new NineKeys();
    int calls = 0;
    for (String line : text.lines().toList()) {
      Matcher call = CALL.matcher(line);
      boolean told = call.matches();
      Check.due("an answer stands behind " + line, told, line.startsWith("x."));
      if (told) {
        calls++;
        Check.due(line, answer(x, call.group(1), call.group(2)), Integer.parseInt(call.group(3)));
      }
    }
    Check.due("the example has calls", calls > 20, true);
    for (Method method : NineKeys.class.getDeclaredMethods()) {
      if (Modifier.isPublic(method.getModifiers())) {
        Check.due(method.getName() + " is explained", text.contains("`" + method.getName() + "("), true);
      }
    }
    Check.finish();
  }

  private static int answer(NineKeys x, String name, String numbers) throws ReflectiveOperationException {
    Object[] args = numbers.isBlank() ? new Object[0]
        : Arrays.stream(numbers.split(", ")).map(Integer::valueOf).toArray();
    Class<?>[] types = new Class<?>[args.length];
    Arrays.fill(types, int.class);
    return (Integer) NineKeys.class.getMethod(name, types).invoke(x, args);
  }
}

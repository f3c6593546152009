import java.lang.reflect.InvocationTargetException;
import java.lang.reflect.Method;
import java.lang.reflect.Modifier;
import java.util.HashMap;
import java.util.Map;

/** Every call with every row of far-off numbers, in several states: it answers as Model does, and never throws. */
public final class WildTest {
  private static final int[] FAR = {Integer.MIN_VALUE, -100, -2, -1, 0, 1, 2, 3, 9, 10, 25, 26, 39, 40, 79, 80, 100,
      100000, 100001, 1000000, 1000001, Integer.MAX_VALUE};
  private static final int[] FAR_LETTERS = {Integer.MIN_VALUE, -1, 0, 25, 26, Integer.MAX_VALUE};
  private static final Map<String, Method> MODEL = new HashMap<>();

  private final NineKeys x = new NineKeys();
  private final Model model = new Model();

  public static void main(String[] args) throws ReflectiveOperationException {
    for (Method method : Model.class.getDeclaredMethods()) {
      method.setAccessible(true);
      MODEL.put(method.getName() + method.getParameterCount(), method);
    }
    for (Method method : NineKeys.class.getDeclaredMethods()) {
      // Model tries a million deals for best, which takes no numbers anyway.
      boolean called = Modifier.isPublic(method.getModifiers()) && !method.getName().equals("best");
      for (int state = 0; state < 4 && called; state++) {
        WildTest test = new WildTest();
        Check.about("state " + state);
        test.make(state);
        test.all(method, new Object[method.getParameterCount()], 0);
      }
    }
    Check.finish();
  }

  private static long number(Object answer) {
    return answer instanceof Boolean ? ((Boolean) answer ? 1 : 0) : (Integer) answer;
  }

  private void call(Method method, Object... args) throws ReflectiveOperationException {
    String name = method.getName();
    long want = number(MODEL.get(name + args.length).invoke(model, args));
    StringBuilder told = new StringBuilder(name);
    for (Object arg : args) {
      told.append(' ').append(arg);
    }
    try {
      Check.due(told.toString(), number(method.invoke(x, args)), want);
    } catch (InvocationTargetException thrown) {
      Check.due(told + " threw " + thrown.getCause(), 0, 1);
    }
  }

  private void call(String name, int... numbers) throws ReflectiveOperationException {
    Class<?>[] types = new Class<?>[numbers.length];
    Object[] args = new Object[numbers.length];
    for (int i = 0; i < numbers.length; i++) {
      types[i] = int.class;
      args[i] = numbers[i];
    }
    call(NineKeys.class.getDeclaredMethod(name, types), args);
  }

  private void all(Method method, Object[] args, int from) throws ReflectiveOperationException {
    if (from == args.length) {
      call(method, args);
      return;
    }
    for (int number : args.length > 3 ? FAR_LETTERS : FAR) {
      args[from] = number;
      all(method, args, from + 1);
    }
  }

  /** 0 nothing, 1 a few of all, 2 as many of all as may be, 3 words that are all gone. */
  private void make(int state) throws ReflectiveOperationException {
    int words = state == 0 ? 0 : state == 2 ? 80 : 5;
    for (int n = 0; n < words; n++) {
      call("spell", n % 26, n / 26, 25, -1, 0);
      call("add", 1 + n);
    }
    for (int n = 0; n < words * 2; n++) {
      call("pair", words - 1 - n % 13, words - 1 - n / 13, 7);
      call("put", words - 1 - n % 3);
      call("press", 1 + n % 3);
    }
    for (int n = 0; n < words && n < 10; n++) {
      call("spell", 24, n, -1, 0, 0);
      call("third");
    }
    for (int w = 0; w < words && state == 3; w++) {
      call("drop", w);
    }
    for (int n = 0; n < words && n < 2; n++) {
      call("spell", 0, 0, 25, 3, 4);
    }
  }
}

import java.lang.reflect.InvocationTargetException;
import java.lang.reflect.Method;
import java.util.ArrayList;
import java.util.HashMap;
import java.util.List;
import java.util.Map;

/**
 * Calls told as text, so that the same ones can be counted, and made on the program and on the
 * model: "learn 0 9", or with the answer that is due "learn 0 9 = 43690".
 */
final class Script {
  static final String INDEX = "throws.IndexOutOfBoundsException";
  static final String ARGUMENT = "throws.IllegalArgumentException";
  static final String STATE = "throws.IllegalStateException";

  private static final Map<String, Method> PROGRAM = methodsOf(BeliefReviser.class);
  private static final Map<String, Method> MODEL = methodsOf(Model.class);

  private Script() {
  }

  /** Calls are parted by semicolons. */
  static List<String> lines(String... parts) {
    List<String> lines = new ArrayList<>();
    for (String part : parts) {
      for (String line : part.split(";")) {
        if (!line.isBlank()) {
          lines.add(line.trim());
        }
      }
    }
    return lines;
  }

  static String call(String line) {
    int end = line.indexOf(" = ");
    return end < 0 ? line : line.substring(0, end);
  }

  static boolean hasDue(String line) {
    return line.contains(" = ");
  }

  static String due(String line) {
    return line.substring(line.indexOf(" = ") + 3);
  }

  static boolean isRefused(String line) {
    return hasDue(line) && isRefusal(due(line));
  }

  static boolean isRefusal(String answer) {
    return answer.startsWith("throws.");
  }

  /** A new object on which these calls were made. */
  static BeliefReviser made(String... parts) {
    BeliefReviser x = new BeliefReviser();
    for (String line : lines(parts)) {
      answer(x, line);
    }
    return x;
  }

  /** Makes the call on a program or a model. */
  static String answer(Object on, String line) {
    String[] words = call(line).split(" ");
    Method method = (on instanceof BeliefReviser ? PROGRAM : MODEL).get(words[0]);
    if (method == null || method.getParameterCount() != words.length - 1) {
      throw new IllegalStateException("no such call: " + line);
    }
    try {
      return String.valueOf(method.invoke(on, arguments(method, words)));
    } catch (InvocationTargetException e) {
      return "throws." + e.getCause().getClass().getSimpleName();
    } catch (IllegalAccessException e) {
      throw new IllegalStateException(e);
    }
  }

  private static Object[] arguments(Method method, String[] words) {
    Class<?>[] types = method.getParameterTypes();
    Object[] arguments = new Object[types.length];
    for (int k = 0; k < types.length; k++) {
      if (types[k] == boolean.class) {
        arguments[k] = truth(words[k + 1]);
      } else {
        arguments[k] = Integer.valueOf(words[k + 1]);
      }
    }
    return arguments;
  }

  private static Boolean truth(String word) {
    if (!word.equals("true") && !word.equals("false")) {
      throw new IllegalStateException("neither true nor false: " + word);
    }
    return Boolean.valueOf(word);
  }

  private static Map<String, Method> methodsOf(Class<?> face) {
    Map<String, Method> methods = new HashMap<>();
    for (Method method : face.getMethods()) {
      if (method.getDeclaringClass() == face) {
        methods.put(method.getName(), method);
      }
    }
    return methods;
  }
}

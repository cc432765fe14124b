import java.lang.reflect.InvocationTargetException;
import java.lang.reflect.Method;
import java.util.Arrays;
import java.util.Comparator;
import java.util.Random;

/** Long runs of calls, the same ones in each run of the test, answered by the program and a model. */
public final class OracleTest {
  private static final int RUNS = 400;
  private static final int LIFE = 512;
  private static final Check check = new Check("OracleTest");
  private static final Method[] METHODS = methods();

  public static void main(String[] args) {
    for (int run = 0; run < RUNS; run++) {
      follow(run);
    }
    check.end();
  }

  private static Method[] methods() {
    return Arrays.stream(BeliefReviser.class.getMethods())
        .filter(m -> m.getDeclaringClass() == BeliefReviser.class)
        .sorted(Comparator.comparing(Method::getName))
        .toArray(Method[]::new);
  }

  private static void follow(int run) {
    Random random = new Random(run);
    BeliefReviser program = new BeliefReviser();
    Model model = new Model();
    for (int call = 1; call < LIFE; call++) {
      Method method = pick(random, run);
      Object[] arguments = arguments(random, method);
      String told = "run " + run + ", call " + call + ": " + method.getName()
          + Arrays.toString(arguments);
      String want = answer(model, method, arguments);
      check.due(told, answer(program, method, arguments), want);
      if (want.startsWith("throws") && call < LIFE - 1) {
        check.due(told + ", digest after it", program.digest(), model.digest());
        call++;
      }
    }
    if (run % 20 == 0) {
      check.due("run " + run + ": core as the last call", program.core(), model.wholeCore());
    } else {
      check.due("run " + run + ": digest as the last call", program.digest(), model.digest());
    }
  }

  /** Some runs build up more often than they take away, so that the limits are met. */
  private static Method pick(Random random, int run) {
    String[] growing = {"atom", "atom", "add", "join", "negate", "recall"};
    if (random.nextInt(4) < run % 3) {
      return named(growing[random.nextInt(growing.length)]);
    }
    Method method = METHODS[random.nextInt(METHODS.length)];
    boolean takesAway = method.getName().equals("giveUp") || method.getName().equals("drop");
    return takesAway && random.nextInt(3) != 0 ? named("setRank") : method;
  }

  private static Method named(String name) {
    for (Method method : METHODS) {
      if (method.getName().equals(name)) {
        return method;
      }
    }
    throw new IllegalStateException(name);
  }

  private static Object[] arguments(Random random, Method method) {
    Class<?>[] types = method.getParameterTypes();
    Object[] arguments = new Object[types.length];
    for (int k = 0; k < types.length; k++) {
      arguments[k] = types[k] == boolean.class
          ? (Object) random.nextBoolean() : (Object) number(random, method.getName(), k);
    }
    return arguments;
  }

  private static int number(Random random, String method, int place) {
    switch (random.nextInt(40)) {
      case 0:
        return random.nextInt();
      case 1:
        return -1 - random.nextInt(3);
      case 2:
        return random.nextInt(2048);
      default:
        return usual(random, method, place);
    }
  }

  private static int usual(Random random, String method, int place) {
    switch (method) {
      case "atom":
      case "share":
      case "join":
        return random.nextInt(5) % 4 + (random.nextInt(20) == 0 ? 1 : 0);
      case "add":
        return 1 + random.nextInt(9);
      case "giveUp":
        return 1 << random.nextInt(11);
      case "worlds":
      case "entails":
        return random.nextInt(1 << random.nextInt(11));
      case "level":
        return random.nextInt(17);
      case "learn":
        return place == 0 ? random.nextInt(4) : random.nextInt(11);
      default:
        return random.nextInt(place == 0 ? 8 : 11);
    }
  }

  private static String answer(Object object, Method method, Object[] arguments) {
    try {
      Method own = object.getClass().getMethod(method.getName(), method.getParameterTypes());
      return String.valueOf(own.invoke(object, arguments));
    } catch (InvocationTargetException e) {
      return "throws " + e.getCause().getClass().getSimpleName();
    } catch (ReflectiveOperationException e) {
      throw new IllegalStateException(e);
    }
  }
}

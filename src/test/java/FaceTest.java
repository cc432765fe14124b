import java.lang.reflect.Constructor;
import java.lang.reflect.Field;
import java.lang.reflect.Method;
import java.lang.reflect.Modifier;
import java.util.Set;
import java.util.TreeSet;

/**
 * The public face: just the constructor and the methods of the document, which declare no other
 * exceptions than it names.
 */
public final class FaceTest {
  private static final Check check = new Check("FaceTest");

  private static final String[] FACE = {
    "int atom(int) IndexOutOfBoundsException IllegalStateException",
    "int constant(boolean) IllegalStateException",
    "int recall(int) IndexOutOfBoundsException IllegalStateException",
    "int negate() IllegalStateException",
    "int join(int) IllegalArgumentException IllegalStateException",
    "int pop() IllegalStateException",
    "int height()",
    "int top() IllegalStateException",
    "int add(int) IllegalArgumentException IllegalStateException",
    "int setRank(int,int) IndexOutOfBoundsException IllegalArgumentException",
    "int drop() IllegalStateException",
    "int giveUp(int) IllegalArgumentException",
    "int size()",
    "int sentence(int,boolean) IndexOutOfBoundsException",
    "int worlds(int) IllegalArgumentException",
    "boolean entails(int) IllegalStateException IllegalArgumentException",
    "int kernels() IllegalStateException",
    "int kernel(int) IllegalStateException IndexOutOfBoundsException",
    "int remainders() IllegalStateException",
    "int remainder(int) IllegalStateException IndexOutOfBoundsException",
    "int bestRemainder() IllegalStateException",
    "int cut() IllegalStateException",
    "int degree() IllegalStateException",
    "boolean isBelieved() IllegalStateException",
    "int conflict()",
    "int core()",
    "int load()",
    "int level(int) IndexOutOfBoundsException",
    "int possible()",
    "int learn(int,int) IllegalArgumentException IllegalStateException",
    "int firmness() IllegalStateException",
    "boolean would() IllegalStateException",
    "int layers()",
    "double share(int) IndexOutOfBoundsException",
    "long digest()",
  };

  public static void main(String[] args) {
    Class<?> face = BeliefReviser.class;
    check.due("the class", Modifier.toString(face.getModifiers()), "public final");
    Constructor<?>[] constructors = face.getDeclaredConstructors();
    check.due("constructors", constructors.length, 1);
    check.due("the constructor", constructors[0].toString(), "public BeliefReviser()");
    Set<String> open = new TreeSet<>();
    for (Method method : face.getDeclaredMethods()) {
      if (!Modifier.isPrivate(method.getModifiers())) {
        open.add(told(method));
        check.due(method + " is static", Modifier.isStatic(method.getModifiers()), false);
        check.due(method + " declares other exceptions", declaresOthers(method), false);
      } else {
        check.due("a private method named " + method.getName(), isFaceName(method), false);
      }
    }
    Set<String> due = new TreeSet<>();
    for (String line : FACE) {
      due.add(line.substring(0, line.indexOf(')') + 1));
    }
    check.due("the methods", open.toString(), due.toString());
    for (Field field : face.getDeclaredFields()) {
      check.due(field + " is private", Modifier.isPrivate(field.getModifiers()), true);
    }
    for (Class<?> inside : face.getDeclaredClasses()) {
      int kind = inside.getModifiers() & (Modifier.PUBLIC | Modifier.PROTECTED);
      check.due(inside + " is private or package-visible", kind, 0);
    }
    check.end();
  }

  private static String told(Method method) {
    StringBuilder told = new StringBuilder(method.getReturnType().getName());
    told.append(' ').append(method.getName()).append('(');
    for (Class<?> type : method.getParameterTypes()) {
      told.append(told.charAt(told.length() - 1) == '(' ? "" : ",").append(type.getName());
    }
    return told.append(')').toString();
  }

  private static boolean declaresOthers(Method method) {
    for (Class<?> type : method.getExceptionTypes()) {
      for (String line : FACE) {
        if (line.startsWith(told(method)) && !line.contains(" " + type.getSimpleName())) {
          return true;
        }
      }
    }
    return false;
  }

  private static boolean isFaceName(Method method) {
    for (String line : FACE) {
      if (line.contains(" " + method.getName() + "(")) {
        return true;
      }
    }
    return false;
  }
}

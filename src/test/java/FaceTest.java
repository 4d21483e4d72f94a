import java.lang.reflect.Constructor;
import java.lang.reflect.Field;
import java.lang.reflect.Method;
import java.lang.reflect.Modifier;
import java.util.Arrays;
import java.util.Set;
import java.util.TreeSet;
import java.util.stream.Collectors;

/** The public face is the document's, with its exceptions; nothing else can be seen from outside. */
public final class FaceTest {
  private static final String INDEX = " throws IndexOutOfBoundsException";
  private static final String ARGUMENT = " throws IllegalArgumentException";
  private static final String INDEX_ARGUMENT = INDEX + ", IllegalArgumentException";
  private static final String INDEX_STATE = INDEX + ", IllegalStateException";
  private static final String ARGUMENT_STATE = ARGUMENT + ", IllegalStateException";
  private static final String[] FACE = {
    "int star(int, int, int, int, int)" + ARGUMENT_STATE, "int push(int, int)" + INDEX_ARGUMENT,
    "int jump(int, int, int)" + INDEX_ARGUMENT, "boolean health(int, boolean)" + INDEX,
    "int station(int, int)" + ARGUMENT_STATE, "int listen(int, int)" + INDEX_STATE,
    "int receiver(int, int, int)" + ARGUMENT_STATE, "int go(int, int, int)" + INDEX_ARGUMENT,
    "int hills(int, int, int)" + INDEX_ARGUMENT, "int air(int, int, boolean)" + INDEX_ARGUMENT,
    "int alert(int, int)" + INDEX_ARGUMENT, "int spoof(int, int)" + INDEX_ARGUMENT,
    "int refer(int, int)" + INDEX_ARGUMENT, "int pass(int)" + ARGUMENT,
    "int observe(int)" + INDEX_STATE, "int ofStar(int, int)" + INDEX_ARGUMENT,
    "int message(int, int)" + INDEX_ARGUMENT, "int seen(int, int, int)" + INDEX_ARGUMENT,
    "int ofReceiver(int, int)" + INDEX_ARGUMENT, "int many(int)" + ARGUMENT,
    "double meanError(int)" + INDEX, "int wouldSee(int, int)" + INDEX_ARGUMENT,
    "int heardIn(int, int)" + INDEX, "int without(int, int)" + INDEX,
    "int wouldAlarm(int)" + INDEX, "long digest()",
  };

  public static void main(String[] args) {
    Due due = new Due();
    Class<?> type = Pseudorange.class;
    due.is("public and final", type.getModifiers(), Modifier.PUBLIC | Modifier.FINAL);
    Constructor<?>[] made = type.getDeclaredConstructors();
    due.is("constructors", made.length, 1);
    due.is("its parameters", made[0].getParameterCount(), 0);
    due.is("it is public", Modifier.isPublic(made[0].getModifiers()), true);
    for (Field field : type.getDeclaredFields()) {
      due.is(field.getName() + " is private", Modifier.isPrivate(field.getModifiers()), true);
    }
    methods(due, type);
    due.end();
  }

  private static void methods(Due due, Class<?> type) {
    Set<String> want = new TreeSet<>(Arrays.asList(FACE));
    Set<String> names = new TreeSet<>();
    for (String sign : FACE) {
      names.add(sign.substring(sign.indexOf(' ') + 1, sign.indexOf('(')));
    }
    for (Method method : type.getDeclaredMethods()) {
      if (Modifier.isPrivate(method.getModifiers())) {
        due.is(method.getName() + " bears a public name", names.contains(method.getName()), false);
      } else {
        due.is(sign(method) + " is of the face", want.remove(sign(method)), true);
        due.is(sign(method) + " is public", method.getModifiers(), Modifier.PUBLIC);
      }
    }
    due.is("missing: " + want, want.size(), 0);
    for (Class<?> inner : type.getDeclaredClasses()) {
      for (Method method : inner.getDeclaredMethods()) {
        due.is(method.getName() + " bears a public name", names.contains(method.getName()), false);
      }
    }
  }

  private static String sign(Method method) {
    return method.getReturnType().getSimpleName() + " " + method.getName()
        + "(" + names(method.getParameterTypes()) + ")"
        + (method.getExceptionTypes().length == 0 ? "" : " throws " + names(method.getExceptionTypes()));
  }

  private static String names(Class<?>[] types) {
    return Arrays.stream(types).map(Class::getSimpleName).collect(Collectors.joining(", "));
  }
}

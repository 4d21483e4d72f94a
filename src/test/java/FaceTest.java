import java.lang.reflect.Constructor;
import java.lang.reflect.Field;
import java.lang.reflect.Method;
import java.lang.reflect.Modifier;
import java.util.Arrays;
import java.util.Set;
import java.util.TreeSet;

/** The public face is the document's, and nothing else can be seen from outside. */
public final class FaceTest {
  private static final String[] FACE = {
    "int star(int, int, int, int, int)", "int push(int, int)", "int jump(int, int, int)",
    "boolean health(int, boolean)", "int station(int, int)", "int listen(int, int)",
    "int receiver(int, int, int)", "int go(int, int, int)", "int hills(int, int, int)",
    "int air(int, int, boolean)", "int alert(int, int)", "int spoof(int, int)",
    "int refer(int, int)", "int pass(int)", "int observe(int)", "int ofStar(int, int)",
    "int message(int, int)", "int seen(int, int, int)", "int ofReceiver(int, int)",
    "int many(int)", "double meanError(int)", "int wouldSee(int, int)", "int heardIn(int, int)",
    "int without(int, int)", "int wouldAlarm(int)", "long digest()",
  };

  public static void main(String[] args) {
    Due due = new Due();
    Class<?> type = Pseudorange.class;
    due.is("public and final", type.getModifiers(), Modifier.PUBLIC | Modifier.FINAL);
    Constructor<?>[] made = type.getDeclaredConstructors();
    due.is("constructors", made.length, 1);
    due.is("its parameters", made[0].getParameterCount(), 0);
    due.is("it is public", Modifier.isPublic(made[0].getModifiers()), true);
    for (Field field : type.getDeclaredFields()) {
      due.is(field.getName() + " is private", Modifier.isPrivate(field.getModifiers()), true);
    }
    methods(due, type);
    due.end();
  }

  private static void methods(Due due, Class<?> type) {
    Set<String> want = new TreeSet<>(Arrays.asList(FACE));
    Set<String> names = new TreeSet<>();
    for (String sign : FACE) {
      names.add(sign.substring(sign.indexOf(' ') + 1, sign.indexOf('(')));
    }
    for (Method method : type.getDeclaredMethods()) {
      if (Modifier.isPrivate(method.getModifiers())) {
        due.is(method.getName() + " bears a public name", names.contains(method.getName()), false);
      } else {
        due.is(sign(method) + " is of the face", want.remove(sign(method)), true);
      }
    }
    due.is("missing: " + want, want.size(), 0);
    for (Class<?> inner : type.getDeclaredClasses()) {
      for (Method method : inner.getDeclaredMethods()) {
        due.is(method.getName() + " bears a public name", names.contains(method.getName()), false);
      }
    }
  }

  private static String sign(Method method) {
    StringBuilder text = new StringBuilder();
    text.append(method.getReturnType().getSimpleName()).append(' ').append(method.getName()).append('(');
    String between = "";
    for (Class<?> parameter : method.getParameterTypes()) {
      text.append(between).append(parameter.getSimpleName());
      between = ", ";
    }
    return text.append(')').toString();
  }
}

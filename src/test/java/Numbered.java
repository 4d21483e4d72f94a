import java.lang.reflect.InvocationTargetException;
import java.lang.reflect.Method;
import java.util.Arrays;
import java.util.Comparator;
import java.util.Set;
import java.util.TreeSet;

/** Runs the tests of a class that bear a promise's number: static void p07_whatIsTested(Due due). */
final class Numbered {
  private static final String NAME = "p\\d\\d_\\w+";

  private Numbered() {}

  /** Fails too if one of these promises has no test in the class. */
  static void run(Class<?> tests, int... promises) {
    Due due = new Due();
    Set<Integer> tested = new TreeSet<>();
    Method[] methods = tests.getDeclaredMethods();
    Arrays.sort(methods, Comparator.comparing(Method::getName));
    for (Method method : methods) {
      if (method.getName().matches(NAME)) {
        tested.add(Integer.parseInt(method.getName().substring(1, 3)));
        runOne(due, method);
      }
    }
    for (int promise : promises) {
      due.is("there is a test of promise " + promise, tested.contains(promise), true);
    }
    due.is("promises tested", tested.size(), promises.length);
    due.end();
  }

  private static void runOne(Due due, Method method) {
    int before = due.wrong();
    try {
      method.invoke(null, due);
    } catch (InvocationTargetException e) {
      due.isWrong("it threw " + e.getCause());
    } catch (IllegalAccessException e) {
      due.isWrong("it can not be run: " + e);
    }
    if (due.wrong() > before) {
      System.out.println("that was " + method.getName());
    }
  }
}

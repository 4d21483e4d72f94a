import java.util.concurrent.Callable;
import java.util.function.Supplier;

/** Counts and prints the answers of a test that are not as due. */
final class Due {
  /** A call with one of its numbers left open. */
  interface Call {
    Object of(Pseudorange sky, int value);
  }

  private int wrong;

  int wrong() {
    return wrong;
  }

  void isWrong(String what) {
    wrong++;
    System.out.println(what);
  }

  void is(String call, double got, double want) {
    if (got != want) {
      isWrong(call + " answered " + got + ", due is " + want);
    }
  }

  void is(String call, long got, long want) {
    if (got != want) {
      isWrong(call + " answered " + got + ", due is " + want);
    }
  }

  void is(String call, boolean got, boolean want) {
    is(call, got ? 1L : 0L, want ? 1L : 0L);
  }

  /** The call is to throw exactly that, and to change nothing. */
  void fails(Pseudorange sky, Class<? extends Exception> want, String name, Callable<?> call) {
    long before = sky.digest();
    Class<?> got = null;
    try {
      call.call();
    } catch (Exception e) {
      got = e.getClass();
    }
    if (got != want) {
      isWrong(name + " threw " + got + ", due is " + want);
    }
    if (sky.digest() != before) {
      isWrong(name + " changed something");
    }
  }

  /** Both ends and what lies beside them inside are taken; beside them outside it fails, also far away. */
  void limits(String name, int least, int most, Class<? extends Exception> want,
      Supplier<Pseudorange> made, Call call) {
    int[] inside = {least, Math.min(least + 1, most), Math.max(most - 1, least), most};
    for (int value : inside) {
      try {
        call.of(made.get(), value);
      } catch (RuntimeException e) {
        isWrong(name + " " + value + " threw " + e.getClass());
      }
    }
    int[] outside = {Integer.MIN_VALUE, least - 1, most + 1, Integer.MAX_VALUE};
    for (int value : outside) {
      Pseudorange sky = made.get();
      fails(sky, want, name + " " + value, () -> call.of(sky, value));
    }
  }

  void end() {
    if (wrong != 0) {
      System.out.println(wrong + " answers are not as due");
      System.exit(1);
    }
  }
}

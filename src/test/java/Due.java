import java.util.concurrent.Callable;

/** Counts and prints the answers of a test that are not as due. */
final class Due {
  private int wrong;

  void is(String call, double got, double want) {
    if (got != want) {
      wrong++;
      System.out.println(call + " answered " + got + ", due is " + want);
    }
  }

  void is(String call, long got, long want) {
    if (got != want) {
      wrong++;
      System.out.println(call + " answered " + got + ", due is " + want);
    }
  }

  void is(String call, boolean got, boolean want) {
    is(call, got ? 1L : 0L, want ? 1L : 0L);
  }

  /** The call is to throw exactly that, and to change nothing. */
  void fails(Pseudorange sky, Class<? extends Exception> want, String name, Callable<?> call) {
    long before = sky.digest();
    Class<?> got = null;
    try {
      call.call();
    } catch (Exception e) {
      got = e.getClass();
    }
    if (got != want) {
      wrong++;
      System.out.println(name + " threw " + got + ", due is " + want);
    }
    if (sky.digest() != before) {
      wrong++;
      System.out.println(name + " changed something");
    }
  }

  void end() {
    if (wrong != 0) {
      System.out.println(wrong + " answers are not as due");
      System.exit(1);
    }
  }
}

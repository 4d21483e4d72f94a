import java.util.concurrent.Callable;

/** Long walks of calls, right and wrong ones, in which the class and the model must agree. */
public final class ModelTest {
  private static final int WALKS = 120;
  private static final int CALLS = 512;
  private long seed;
  private Pseudorange sky;
  private Model model;
  private String call;
  private int wrong;

  public static void main(String[] args) {
    ModelTest test = new ModelTest();
    for (int walk = 0; walk < WALKS && test.wrong < 5; walk++) {
      test.walk(walk);
    }
    if (test.wrong != 0) {
      System.exit(1);
    }
  }

  private void walk(int number) {
    seed = 7919L * number + 1;
    sky = new Pseudorange();
    model = new Model();
    for (int n = 0; n < CALLS; n++) {
      Object[] answers = n < 12 ? told(n) : next();
      if (!answers[0].equals(answers[1])) {
        wrong++;
        System.out.println("walk " + number + ", call " + n + ": " + call + " answered " + answers[0]
            + ", the model " + answers[1]);
        return;
      }
    }
  }

  /** A number from 0 to below n, always the same ones for the same walk. */
  private int below(int n) {
    seed = seed * 6364136223846793005L + 1442695040888963407L;
    return (int) ((seed >>> 33) % n);
  }

  /** A number of the range; now and then one beside it. */
  private int of(int from, int to) {
    int dice = below(60);
    if (dice == 0) {
      return from - 1 - below(2);
    }
    return dice == 1 ? to + 1 + below(2) : from + below(to - from + 1);
  }

  private Object[] both(String name, Callable<Object> ours, Callable<Object> theirs) {
    call = name;
    return new Object[] {answer(ours), answer(theirs)};
  }

  private static Object answer(Callable<Object> of) {
    try {
      return of.call();
    } catch (Exception e) {
      return e.getClass();
    }
  }

  private Object[] told(int n) {
    if (n < 7) {
      return star(60 + below(141), (38 + below(21)) % 48, below(3) - 1, below(101) - 50, below(3) - 1);
    }
    return n < 10 ? station(50 * (n - 8), below(3)) : receiver();
  }

  private Object[] star(int radius, int phase, int spin, int offset, int drift) {
    return both("star", () -> sky.star(radius, phase, spin, offset, drift),
        () -> model.star(radius, phase, spin, offset, drift));
  }

  private Object[] station(int x, int delay) {
    return both("station", () -> sky.station(x, delay), () -> model.station(x, delay));
  }

  private Object[] receiver() {
    int x = of(-12, 12), y = of(0, 12), bias = of(-99, 99);
    return both("receiver", () -> sky.receiver(x, y, bias), () -> model.receiver(x, y, bias));
  }

  private Object[] next() {
    int dice = below(100);
    if (dice < 24) {
      int r = of(0, 2);
      return both("observe " + r, () -> sky.observe(r), () -> model.observe(r));
    }
    if (dice < 48) {
      int t = of(0, 2), s = of(0, 7);
      return both("listen " + t + " " + s, () -> sky.listen(t, s), () -> model.listen(t, s));
    }
    if (dice < 60) {
      int k = below(12) == 0 ? of(1, 48) : 1;
      return both("pass " + k, () -> sky.pass(k), () -> model.pass(k));
    }
    if (dice < 66) {
      return both("digest", sky::digest, model::digest);
    }
    return dice < 80 ? change(below(10)) : ask(below(10));
  }

  private Object[] change(int which) {
    int s = of(0, 7), r = of(0, 2);
    int a, b;
    switch (which) {
      case 0:
        return star(of(60, 200), of(0, 47), of(-3, 3), of(-500, 500), of(-3, 3));
      case 1:
        a = of(-5, 5);
        return both("push " + s, () -> sky.push(s, a), () -> model.push(s, a));
      case 2:
        a = below(2) == 0 ? of(-6, 6) : of(-99, 99);
        b = of(-3, 3);
        return both("jump " + s, () -> sky.jump(s, a, b), () -> model.jump(s, a, b));
      case 3:
        boolean is = below(3) > 0;
        return both("health " + s, () -> sky.health(s, is), () -> model.health(s, is));
      case 4:
        a = of(-12, 12);
        b = of(0, 12);
        return both("go " + r, () -> sky.go(r, a, b), () -> model.go(r, a, b));
      case 5:
        a = below(2) == 0 ? of(0, 12) : of(0, 60);
        b = below(2) == 0 ? of(0, 12) : of(0, 60);
        return both("hills " + r, () -> sky.hills(r, a, b), () -> model.hills(r, a, b));
      case 6:
        a = of(0, 9);
        boolean dual = below(2) == 0;
        return both("air " + r, () -> sky.air(r, a, dual), () -> model.air(r, a, dual));
      case 7:
        a = of(1, 24);
        return both("alert " + r, () -> sky.alert(r, a), () -> model.alert(r, a));
      case 8:
        a = below(2) == 0 ? 0 : of(-30, 30);
        return both("spoof " + r, () -> sky.spoof(r, a), () -> model.spoof(r, a));
      default:
        a = of(-1, 2);
        return below(6) == 0 ? receiver()
            : both("refer " + r, () -> sky.refer(r, a), () -> model.refer(r, a));
    }
  }

  private Object[] ask(int which) {
    int s = of(0, 7), r = of(0, 2);
    int a;
    switch (which) {
      case 0:
        a = of(0, 7);
        return both("ofStar " + s, () -> sky.ofStar(s, a), () -> model.ofStar(s, a));
      case 1:
        a = of(0, 7);
        return both("message " + s, () -> sky.message(s, a), () -> model.message(s, a));
      case 2:
        a = of(0, 7);
        return both("seen " + r, () -> sky.seen(r, s, a), () -> model.seen(r, s, a));
      case 3:
        a = of(0, 13);
        return both("ofReceiver " + r, () -> sky.ofReceiver(r, a), () -> model.ofReceiver(r, a));
      case 4:
        a = of(0, 8);
        return both("many " + a, () -> sky.many(a), () -> model.many(a));
      case 5:
        return both("meanError " + r, () -> sky.meanError(r), () -> model.meanError(r));
      case 6:
        a = of(0, 48);
        return both("wouldSee " + r, () -> sky.wouldSee(r, a), () -> model.wouldSee(r, a));
      case 7:
        a = of(0, 2);
        return both("heardIn " + s, () -> sky.heardIn(s, a), () -> model.heardIn(s, a));
      case 8:
        return both("without " + r, () -> sky.without(r, s), () -> model.without(r, s));
      default:
        return both("wouldAlarm " + r, () -> sky.wouldAlarm(r), () -> model.wouldAlarm(r));
    }
  }
}

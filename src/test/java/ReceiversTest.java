/** Promises 8 to 14: receivers, and what is told of them. */
public final class ReceiversTest {
  private static final Class<IllegalArgumentException> ARGUMENT = IllegalArgumentException.class;
  private static final Class<IllegalStateException> STATE = IllegalStateException.class;
  private static final Class<IndexOutOfBoundsException> INDEX = IndexOutOfBoundsException.class;
  private static final Due DUE = new Due();

  public static void main(String[] args) {
    receiver();
    go();
    hills();
    air();
    alert();
    spoof();
    refer();
    DUE.end();
  }

  private static void receiver() {
    Pseudorange sky = new Pseudorange();
    DUE.fails(sky, ARGUMENT, "x -13", () -> sky.receiver(-13, 0, 0));
    DUE.fails(sky, ARGUMENT, "x 13", () -> sky.receiver(13, 0, 0));
    DUE.fails(sky, ARGUMENT, "y -1", () -> sky.receiver(0, -1, 0));
    DUE.fails(sky, ARGUMENT, "y 13", () -> sky.receiver(0, 13, 0));
    DUE.fails(sky, ARGUMENT, "bias -100", () -> sky.receiver(0, 0, -100));
    DUE.fails(sky, ARGUMENT, "bias 100", () -> sky.receiver(0, 0, 100));
    DUE.is("receiver", sky.receiver(-12, 0, -99), 0);
    DUE.is("receiver", sky.receiver(12, 12, 99), 1);
    DUE.is("receiver", sky.receiver(3, 4, 0), 2);
    DUE.fails(sky, STATE, "a fourth receiver", () -> sky.receiver(0, 0, 0));
    DUE.fails(sky, ARGUMENT, "a fourth and wrong one", () -> sky.receiver(0, 13, 0));
    DUE.is("many(3)", sky.many(3), 3);
    long[] want = {3, 4, 0, -1, 0, 0, 0, 0, 0, 99, 0, 0, -1, 0};
    for (int what = 0; what <= 13; what++) {
      DUE.is("ofReceiver(2, " + what + ")", sky.ofReceiver(2, what), want[what]);
    }
    DUE.is("its mean error", sky.meanError(2), 0.0);
  }

  private static void go() {
    Pseudorange sky = new Pseudorange();
    sky.receiver(-3, 2, 0);
    DUE.is("go", sky.go(0, 4, 0), 7);
    DUE.is("x", sky.ofReceiver(0, 0), 4);
    DUE.is("y", sky.ofReceiver(0, 1), 0);
    DUE.is("go", sky.go(0, 2, 12), 12);
    DUE.is("go", sky.go(0, 2, 12), 0);
    DUE.is("go", sky.go(0, -12, 0), 14);
    DUE.is("go", sky.go(0, 12, 12), 24);
    DUE.fails(sky, ARGUMENT, "x -13", () -> sky.go(0, -13, 0));
    DUE.fails(sky, ARGUMENT, "x 13", () -> sky.go(0, 13, 0));
    DUE.fails(sky, ARGUMENT, "y -1", () -> sky.go(0, 0, -1));
    DUE.fails(sky, ARGUMENT, "y 13", () -> sky.go(0, 0, 13));
    DUE.fails(sky, INDEX, "receiver 1", () -> sky.go(1, 13, 13));
    DUE.fails(sky, INDEX, "receiver -1", () -> sky.go(-1, 0, 0));
  }

  /** Stars at (0, 120), (-60, 60), (60, 60), (-110, 10), (110, 10), (120, 0), (0, -120). */
  private static void hills() {
    Pseudorange sky = new Pseudorange();
    int[] phases = {0, 42, 6, 37, 11, 12, 24};
    for (int phase : phases) {
      sky.star(120, phase, 0, 0, 0);
    }
    sky.receiver(0, 0, 0);
    DUE.is("five are seen at first", sky.ofReceiver(0, 2), 5);
    DUE.is("which", sky.wouldSee(0, 0), 0b11111);
    DUE.is("10 is no less than 10", sky.hills(0, 10, 10), 5);
    DUE.is("it hides the left", sky.hills(0, 11, 10), 4);
    DUE.is("which", sky.wouldSee(0, 0), 0b10111);
    DUE.is("it hides the right", sky.hills(0, 10, 11), 4);
    DUE.is("which", sky.wouldSee(0, 0), 0b01111);
    DUE.is("60 is no less than 60", sky.hills(0, 60, 60), 3);
    sky.go(0, 0, 1);
    DUE.is("from 1 up", sky.ofReceiver(0, 2), 1);
    sky.go(0, 0, 0);
    DUE.is("no hill", sky.hills(0, 0, 0), 6);
    DUE.is("also what is as high as it", sky.wouldSee(0, 0), 0b111111);
    sky.health(1, false);
    DUE.is("not healthy", sky.ofReceiver(0, 2), 5);
    DUE.fails(sky, ARGUMENT, "left -1", () -> sky.hills(0, -1, 0));
    DUE.fails(sky, ARGUMENT, "left 61", () -> sky.hills(0, 61, 0));
    DUE.fails(sky, ARGUMENT, "right -1", () -> sky.hills(0, 0, -1));
    DUE.fails(sky, ARGUMENT, "right 61", () -> sky.hills(0, 0, 61));
    DUE.fails(sky, INDEX, "receiver 1", () -> sky.hills(1, 61, 61));
    DUE.fails(sky, INDEX, "receiver -1", () -> sky.hills(-1, 0, 0));
    sameX();
  }

  /** A star right above is not on the left. */
  private static void sameX() {
    Pseudorange sky = new Pseudorange();
    sky.star(60, 0, 0, 0, 0);
    sky.receiver(0, 12, 0);
    DUE.is("behind the left hill", sky.hills(0, 60, 0), 1);
    DUE.is("behind the right hill", sky.hills(0, 0, 60), 0);
    DUE.is("48 above it", sky.hills(0, 0, 48), 1);
    DUE.is("not 49", sky.hills(0, 0, 49), 0);
  }

  private static void air() {
    Pseudorange sky = new Pseudorange();
    sky.receiver(0, 0, 0);
    DUE.is("at first", sky.air(0, 9, false), 0);
    DUE.is("before", sky.air(0, 0, true), 9);
    DUE.is("before", sky.air(0, 4, true), 0);
    DUE.is("before", sky.air(0, 4, false), 4);
    DUE.fails(sky, ARGUMENT, "iono -1", () -> sky.air(0, -1, false));
    DUE.fails(sky, ARGUMENT, "iono 10", () -> sky.air(0, 10, true));
    DUE.fails(sky, INDEX, "receiver 1", () -> sky.air(1, 10, true));
    DUE.fails(sky, INDEX, "receiver -1", () -> sky.air(-1, 0, true));
  }

  private static void alert() {
    Pseudorange sky = new Pseudorange();
    sky.receiver(0, 0, 0);
    DUE.is("at first", sky.alert(0, 24), 6);
    DUE.is("before", sky.alert(0, 1), 24);
    DUE.is("before", sky.alert(0, 1), 1);
    DUE.fails(sky, ARGUMENT, "alert 0", () -> sky.alert(0, 0));
    DUE.fails(sky, ARGUMENT, "alert 25", () -> sky.alert(0, 25));
    DUE.fails(sky, INDEX, "receiver 1", () -> sky.alert(1, 0));
    DUE.fails(sky, INDEX, "receiver -1", () -> sky.alert(-1, 1));
  }

  private static void spoof() {
    Pseudorange sky = new Pseudorange();
    sky.receiver(0, 0, 0);
    DUE.is("at first", sky.spoof(0, -30), 0);
    DUE.is("before", sky.spoof(0, 30), -30);
    DUE.is("before", sky.spoof(0, 0), 30);
    DUE.fails(sky, ARGUMENT, "by -31", () -> sky.spoof(0, -31));
    DUE.fails(sky, ARGUMENT, "by 31", () -> sky.spoof(0, 31));
    DUE.fails(sky, INDEX, "receiver 1", () -> sky.spoof(1, 31));
    DUE.fails(sky, INDEX, "receiver -1", () -> sky.spoof(-1, 0));
  }

  private static void refer() {
    Pseudorange sky = new Pseudorange();
    sky.receiver(0, 0, 0);
    sky.receiver(1, 1, 1);
    DUE.is("at first", sky.refer(0, 1), -1);
    DUE.is("before", sky.refer(0, -1), 1);
    DUE.is("before", sky.refer(0, -1), -1);
    DUE.is("of the other", sky.refer(1, 0), -1);
    DUE.fails(sky, ARGUMENT, "refer(0, 0)", () -> sky.refer(0, 0));
    DUE.fails(sky, ARGUMENT, "refer(1, 1)", () -> sky.refer(1, 1));
    DUE.fails(sky, INDEX, "refer(0, 2)", () -> sky.refer(0, 2));
    DUE.fails(sky, INDEX, "refer(0, -2)", () -> sky.refer(0, -2));
    DUE.fails(sky, INDEX, "refer(2, 2)", () -> sky.refer(2, 2));
    DUE.fails(sky, INDEX, "refer(2, 0)", () -> sky.refer(2, 0));
    DUE.fails(sky, INDEX, "refer(-1, -1)", () -> sky.refer(-1, -1));
    DUE.is("nothing was changed", sky.refer(1, -1), 0);
  }
}

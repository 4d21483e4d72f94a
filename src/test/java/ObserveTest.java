/** Promises 16, 19, 20 and 22: what is observed and solved, with its alarms and its errors. */
public final class ObserveTest {
  private static final Class<IllegalArgumentException> ARGUMENT = IllegalArgumentException.class;
  private static final Class<IllegalStateException> STATE = IllegalStateException.class;
  private static final Class<IndexOutOfBoundsException> INDEX = IndexOutOfBoundsException.class;
  private static final Due DUE = new Due();

  public static void main(String[] args) {
    threeObservations();
    air();
    keptAnew();
    leftTooFar();
    negativeCounts();
    diagonals();
    fewStars();
    notUsed();
    spoofed();
    costLimit();
    leap();
    leapFromThree();
    noLeap();
    misled();
    corrections();
    correctionOfTwo();
    correctionEnds();
    wrongCalls();
    DUE.end();
  }

  /** Stars at (0, 120), (90, 30), (-90, 30), (30, 90), (-30, 90), that stand still. */
  private static Pseudorange cross(int x, int y, int bias) {
    Pseudorange sky = new Pseudorange();
    int[] phases = {0, 9, 39, 3, 45};
    for (int phase : phases) {
      sky.star(120, phase, 0, 0, 0);
    }
    sky.station(50, 0);
    sky.station(-50, 0);
    sky.receiver(x, y, bias);
    return sky;
  }

  private static void listenToAll(Pseudorange sky) {
    sky.listen(0, 0);
    sky.listen(0, 1);
    sky.listen(1, 2);
    sky.listen(0, 3);
    sky.listen(1, 4);
  }

  private static Pseudorange heardCross(int x, int y, int bias) {
    Pseudorange sky = cross(x, y, bias);
    listenToAll(sky);
    return sky;
  }

  private static int observeTimes(Pseudorange sky, int receiver, int times) {
    int alarm = -1;
    for (int i = 0; i < times; i++) {
      if (i > 0) {
        sky.pass(1);
      }
      alarm = sky.observe(receiver);
    }
    return alarm;
  }

  private static void seenIs(Pseudorange sky, int star, long... want) {
    for (int what = 0; what <= 7; what++) {
      DUE.is("seen(0, " + star + ", " + what + ")", sky.seen(0, star, what), want[what]);
    }
  }

  private static void receiverIs(Pseudorange sky, int receiver, long... want) {
    for (int what = 0; what <= 13; what++) {
      DUE.is("ofReceiver(" + receiver + ", " + what + ")", sky.ofReceiver(receiver, what), want[what]);
    }
  }

  /** Worked by hand: noise -2, 1, -1, 2, 0; then 0, -2, 1, -1, 2; then nothing, as all is FIXED. */
  private static void threeObservations() {
    Pseudorange sky = heardCross(0, 0, 0);
    seenIs(sky, 0, -1, -1, -1, -1, -1, 0, 0, -1);
    DUE.is("observe", sky.observe(0), 0);
    seenIs(sky, 0, 118, 0, 12, -2, 1, 0, 1, 0);
    seenIs(sky, 1, 91, 0, 9, 1, 1, 0, 1, 0);
    seenIs(sky, 2, 89, 0, 9, -1, 1, 0, 1, 0);
    seenIs(sky, 3, 92, 0, 9, 2, 1, 0, 1, 0);
    seenIs(sky, 4, 90, 0, 9, 0, 1, 0, 1, 0);
    receiverIs(sky, 0, 0, 0, 5, 0, 5, -1, 0, 0, 16, 4, 0, 0, -1, 1);
    DUE.is("mean error", sky.meanError(0), 1.0);
    DUE.fails(sky, STATE, "observe again", () -> sky.observe(0));
    sky.pass(1);
    DUE.is("observe", sky.observe(0), 0);
    DUE.is("kept for 2", sky.seen(0, 1, 4), 2);
    DUE.is("not fixed yet", sky.seen(0, 1, 5), 0);
    DUE.is("x", sky.ofReceiver(0, 5), 1);
    DUE.is("y", sky.ofReceiver(0, 6), 0);
    DUE.is("cost", sky.ofReceiver(0, 8), 11);
    DUE.is("mean error", sky.meanError(0), 1.0);
    sky.pass(1);
    DUE.is("observe", sky.observe(0), 0);
    seenIs(sky, 0, 122, 0, 12, 2, 3, 1, 1, 0);
    receiverIs(sky, 0, 0, 0, 5, 2, 5, 0, 0, 0, 0, 3, 0, 0, -1, 0);
    DUE.is("mean error", sky.meanError(0), 2.0 / 3.0);
    DUE.is("many(7)", sky.many(7), 3);
    sky.go(0, 12, 3);
    DUE.is("how far it is from there", sky.ofReceiver(0, 13), 12);
    DUE.is("the mean stays", sky.meanError(0), 2.0 / 3.0);
  }

  /** IONO once for what is high, twice for what is low, and none if DUAL; the noise is in all. */
  private static void air() {
    Pseudorange sky = heardCross(0, 0, 7);
    sky.air(0, 9, false);
    sky.observe(0);
    DUE.is("high", sky.seen(0, 0, 0), 120 + 7 + 9 - 2);
    DUE.is("low on the right", sky.seen(0, 1, 0), 90 + 7 + 18 + 1);
    DUE.is("low on the left", sky.seen(0, 2, 0), 90 + 7 + 18 - 1);
    DUE.is("the wave has no delay", sky.seen(0, 1, 1), 7);
    sky.air(0, 9, true);
    sky.pass(1);
    sky.observe(0);
    DUE.is("dual", sky.seen(0, 1, 0), 90 + 7 - 2);
    Pseudorange even = new Pseudorange();
    even.star(120, 6, 0, 0, 0);
    even.star(120, 42, 0, 0, 0);
    even.receiver(0, 0, 0);
    even.air(0, 5, false);
    even.observe(0);
    DUE.is("as far as high", even.seen(0, 0, 0), 60 + 5 - 2);
    DUE.is("as far as high", even.seen(0, 1, 0), 60 + 5 + 1);
  }

  /** A star is kept anew behind an epoch without an observation, or one that did not see it. */
  private static void keptAnew() {
    Pseudorange sky = heardCross(0, 0, 0);
    observeTimes(sky, 0, 3);
    DUE.is("fixed", sky.seen(0, 1, 5), 1);
    sky.pass(2);
    sky.observe(0);
    DUE.is("kept", sky.seen(0, 1, 4), 1);
    DUE.is("fixed", sky.seen(0, 1, 5), 0);
    sky.pass(1);
    observeTimes(sky, 0, 2);
    DUE.is("fixed again", sky.seen(0, 1, 5), 1);
    sky.pass(1);
    sky.health(1, false);
    sky.observe(0);
    seenIs(sky, 1, -1, -1, -1, -1, -1, 0, 0, -1);
    DUE.is("the others go on", sky.seen(0, 0, 4), 4);
    sky.health(1, true);
    seenIs(sky, 1, -1, -1, -1, -1, -1, 0, 0, -1);
    sky.pass(1);
    sky.observe(0);
    DUE.is("kept", sky.seen(0, 1, 4), 1);
    DUE.is("fixed", sky.seen(0, 1, 5), 0);
    DUE.is("the others go on", sky.seen(0, 0, 4), 5);
    sky.star(120, 0, 0, 0, 0);
    seenIs(sky, 5, -1, -1, -1, -1, -1, 0, 0, -1);
  }

  /** With IONO 1 for a high star LEFT is its noise and 1; 3 ends FIXED for three observations. */
  private static void leftTooFar() {
    Pseudorange sky = heardCross(0, 0, 0);
    sky.air(0, 1, false);
    int[] left = {-1, 1, 3, 0, 2, -1, 1, 3, 0};
    int[] fixed = {0, 0, 0, 0, 0, 1, 1, 0, 0};
    for (int i = 0; i < left.length; i++) {
      sky.observe(0);
      DUE.is("left in epoch " + i, sky.seen(0, 0, 3), left[i]);
      DUE.is("fixed in epoch " + i, sky.seen(0, 0, 5), fixed[i]);
      sky.pass(1);
    }
    Pseudorange other = heardCross(0, 0, 0);
    other.air(0, 9, false);
    int[] below = {-3, -1, 1, -2, 0, -3};
    int[] fixedThen = {0, 0, 0, 1, 1, 0};
    for (int i = 0; i < below.length; i++) {
      other.observe(0);
      DUE.is("left in epoch " + i, other.seen(0, 0, 3), below[i]);
      DUE.is("fixed in epoch " + i, other.seen(0, 0, 5), fixedThen[i]);
      other.pass(1);
    }
  }

  /** A clock far behind: the wave is never below 0, and the count is rounded down. */
  private static void negativeCounts() {
    Pseudorange sky = new Pseudorange();
    sky.star(60, 0, 0, -500, 0);
    sky.star(60, 0, 0, -63, 0);
    sky.receiver(0, 0, -4);
    sky.observe(0);
    seenIs(sky, 0, -446, 6, -45, -2, 1, 0, 0, 0);
    seenIs(sky, 1, -6, 3, -1, 1, 1, 0, 0, 0);
  }

  /** With one star of the sides less all places on a diagonal cost nothing: the lowest counts. */
  private static void diagonals() {
    Pseudorange sky = heardCross(4, 6, -20);
    DUE.is("observe", observeTimes(sky, 0, 3), 3);
    receiverIs(sky, 0, 4, 6, 5, 2, 5, 4, 6, -20, 0, 9, 3, 0, 2, 0);
    sky.pass(1);
    sky.alert(0, 9);
    DUE.is("9 is not above 9", sky.observe(0), 0);
    DUE.is("the latest alarm", sky.ofReceiver(0, 12), 2);
    sky.pass(1);
    sky.alert(0, 8);
    DUE.is("9 is above 8", sky.observe(0), 3);
    DUE.is("the latest alarm", sky.ofReceiver(0, 12), 4);
  }

  private static void fewStars() {
    Pseudorange sky = cross(0, 0, 5);
    sky.alert(0, 24);
    sky.listen(0, 0);
    sky.listen(0, 1);
    DUE.is("two are too few", sky.observe(0), 1);
    receiverIs(sky, 0, 0, 0, 5, 0, 2, 0, 0, 0, 0, 99, 1, 0, 0, 0);
    DUE.is("no solution, no error", sky.meanError(0), 0.0);
    sky.listen(1, 2);
    sky.pass(1);
    DUE.is("three give a solution, but no level", sky.observe(0), 1);
    DUE.is("used", sky.ofReceiver(0, 4), 3);
    DUE.is("level", sky.ofReceiver(0, 9), 99);
    sky.pass(1);
    sky.observe(0);
    DUE.is("its time", sky.ofReceiver(0, 7), 5);
    sky.health(2, false);
    sky.go(0, 7, 0);
    sky.pass(1);
    DUE.is("two again", sky.observe(0), 1);
    receiverIs(sky, 0, 7, 0, 4, 3, 2, 0, 0, 5, 0, 99, 1, 0, 3, 7);
    sky.health(2, true);
    sky.listen(0, 3);
    sky.pass(1);
    DUE.is("four are enough", sky.observe(0) != 1, true);
    DUE.is("level", sky.ofReceiver(0, 9) < 99, true);
  }

  /** Without a message, and with one that is too old, a star is seen but not used. */
  private static void notUsed() {
    Pseudorange sky = cross(0, 0, 0);
    sky.observe(0);
    seenIs(sky, 0, 118, 0, 12, -2, 1, 0, 0, 0);
    listenToAll(sky);
    DUE.is("only what was known then", sky.seen(0, 0, 6), 0);
    sky.pass(12);
    sky.observe(0);
    DUE.is("it holds for 12", sky.ofReceiver(0, 4), 5);
    sky.pass(1);
    sky.observe(0);
    DUE.is("not for 13", sky.ofReceiver(0, 4), 0);
    DUE.is("seen", sky.seen(0, 0, 4), 2);
    DUE.is("used", sky.seen(0, 0, 6), 0);
  }

  /** SPOOFED by 10: what is on the left seems farther, all others nearer. */
  private static void spoofed() {
    Pseudorange sky = heardCross(0, 0, 0);
    sky.spoof(0, 10);
    sky.observe(0);
    DUE.is("right above", sky.seen(0, 0, 0), 120 - 10 - 2);
    DUE.is("right", sky.seen(0, 1, 0), 90 - 10 + 1);
    DUE.is("left", sky.seen(0, 2, 0), 90 + 10 - 1);
    DUE.is("the wave too", sky.seen(0, 2, 1), 0);
    sky.spoof(0, -7);
    sky.pass(1);
    sky.observe(0);
    DUE.is("the wave too", sky.seen(0, 2, 1), 3);
    DUE.is("the wave too", sky.seen(0, 1, 1), 7);
  }

  /** Four stars at (0, 120): the place does not matter, and the cost can be worked by hand. */
  private static Pseudorange above() {
    Pseudorange sky = new Pseudorange();
    for (int i = 0; i < 4; i++) {
      sky.star(120, 0, 0, 0, 0);
    }
    sky.station(0, 0);
    sky.receiver(0, 0, 0);
    for (int i = 0; i < 4; i++) {
      sky.listen(0, i);
    }
    return sky;
  }

  /** Two clocks of four jump by 2a when all is FIXED: OVER is a from TIME, the cost 16 a a. */
  private static void costLimit() {
    Pseudorange sky = above();
    sky.alert(0, 24);
    observeTimes(sky, 0, 3);
    // the lowest and leftmost place has the least RANGE of all: 120 from (-12, 0)
    receiverIs(sky, 0, 0, 0, 4, 2, 4, -12, 0, 0, 0, 3, 0, 3, -1, 12);
    sky.pass(1);
    sky.jump(0, 6, 0);
    sky.jump(1, 6, 0);
    DUE.is("144 is not above 160", sky.observe(0), 0);
    DUE.is("cost", sky.ofReceiver(0, 8), 144);
    sky.pass(1);
    sky.jump(0, 2, 0);
    sky.jump(1, 2, 0);
    DUE.is("256 is above 160", sky.observe(0), 2);
    DUE.is("cost", sky.ofReceiver(0, 8), 256);
    DUE.is("misled in all but the last one", sky.ofReceiver(0, 11), 4);
    DUE.is("many(8)", sky.many(8), 4);
    sky.alert(0, 1);
    sky.pass(1);
    DUE.is("2 is ahead of 3", sky.observe(0), 2);
    exactCostLimit();
  }

  /** OVER -4, 4, 2, -2 around TIME 0: 4 times 16, 16, 4, 4 are 160. */
  private static void exactCostLimit() {
    Pseudorange sky = above();
    sky.alert(0, 24);
    observeTimes(sky, 0, 3);
    sky.jump(0, -4, 0);
    sky.jump(1, 4, 0);
    sky.jump(2, 2, 0);
    sky.jump(3, -2, 0);
    sky.pass(1);
    DUE.is("160 is not above 160", sky.observe(0), 0);
    DUE.is("cost", sky.ofReceiver(0, 8), 160);
  }

  /** When all is FIXED, the solution is the place, and so its way is known. */
  private static void leap() {
    Pseudorange sky = heardCross(0, 0, 0);
    sky.alert(0, 24);
    observeTimes(sky, 0, 3);
    sky.pass(1);
    sky.go(0, 4, 0);
    DUE.is("4 is not above 4", sky.observe(0), 0);
    sky.pass(1);
    sky.go(0, -1, 0);
    DUE.is("5 is above 4", sky.observe(0), 4);
    DUE.is("where it is", sky.ofReceiver(0, 5), -1);
    sky.pass(1);
    sky.alert(0, 2);
    sky.go(0, 9, 0);
    DUE.is("3 is ahead of 4", sky.observe(0), 3);
    DUE.is("no level of 3 is misled", sky.ofReceiver(0, 11), 0);
  }

  /** Three stars USED in the EPOCH ahead are enough for a leap, two are not. */
  private static void leapFromThree() {
    Pseudorange sky = cross(0, 0, 0);
    sky.alert(0, 24);
    sky.listen(0, 0);
    sky.listen(0, 1);
    sky.listen(1, 2);
    observeTimes(sky, 0, 3);
    DUE.is("x", sky.ofReceiver(0, 5), 0);
    listenToAll(sky);
    sky.go(0, 6, 0);
    sky.pass(1);
    DUE.is("from three", sky.observe(0), 4);

    Pseudorange two = heardCross(0, 0, 0);
    two.alert(0, 24);
    observeTimes(two, 0, 3);
    two.health(0, false);
    two.health(3, false);
    two.health(4, false);
    two.pass(1);
    DUE.is("two are too few", two.observe(0), 1);
    two.health(0, true);
    two.health(3, true);
    two.health(4, true);
    two.go(0, 12, 0);
    two.pass(1);
    DUE.is("the solution is older than the epoch ahead", two.observe(0), 0);
    DUE.is("though it went far", two.ofReceiver(0, 5) > 4, true);
  }

  private static void noLeap() {
    Pseudorange sky = heardCross(0, 0, 0);
    sky.alert(0, 24);
    observeTimes(sky, 0, 3);
    sky.pass(2);
    sky.go(0, 10, 0);
    DUE.is("not in the epoch ahead", sky.observe(0), 0);
    DUE.is("though it went far", sky.ofReceiver(0, 5) > 4, true);
  }

  /** Stars above do not tell x: the leftmost place is the SOLUTION, wherever it is; LEVEL is 3. */
  private static void misled() {
    Pseudorange sky = above();
    sky.go(0, -9, 0);
    DUE.is("no alarm", observeTimes(sky, 0, 3), 0);
    DUE.is("level", sky.ofReceiver(0, 9), 3);
    DUE.is("error", sky.ofReceiver(0, 13), 3);
    int before = sky.ofReceiver(0, 11);
    sky.pass(1);
    sky.observe(0);
    DUE.is("3 is not above 3", sky.ofReceiver(0, 11), before);
    sky.go(0, -8, 0);
    sky.pass(1);
    sky.observe(0);
    DUE.is("4 is above 3", sky.ofReceiver(0, 11), before + 1);
    DUE.is("many(8)", sky.many(8), before + 1);
    sky.receiver(12, 0, 0);
    sky.alert(1, 24);
    sky.observe(1);
    DUE.is("24 is above 3", sky.ofReceiver(1, 11), 1);
    DUE.is("all of both", sky.many(8), before + 2);
  }

  /** A reference at a known place takes away what is wrong with the clocks of the stars. */
  private static void corrections() {
    Pseudorange sky = heardCross(0, 0, 0);
    sky.receiver(3, 2, 40);
    sky.alert(0, 24);
    sky.alert(1, 24);
    sky.refer(1, 0);
    sky.pass(1);
    sky.jump(1, 11, 0);
    sky.observe(0);
    sky.observe(1);
    // noise 0, -2, 1, -1, 2 and the jump of 11: 0, 9, 1, -1, 2, whose mean is 2
    long[] want = {-2, 7, -1, -3, 0};
    for (int i = 0; i < 5; i++) {
      DUE.is("correction of " + i, sky.seen(1, i, 7), want[i]);
      DUE.is("none for the reference", sky.seen(0, i, 7), 0);
    }
    sky.refer(1, -1);
    sky.pass(1);
    sky.observe(1);
    for (int i = 0; i < 5; i++) {
      DUE.is("without a reference", sky.seen(1, i, 7), 0);
    }
    meanBelowZero();
  }

  /** Noise 0, -2, 1, -1, 2 and jumps of -1 and -3: 0, -3, 1, -4, 2 are -4 in sum. */
  private static void meanBelowZero() {
    Pseudorange sky = heardCross(0, 0, 0);
    sky.receiver(3, 2, 40);
    sky.refer(1, 0);
    sky.pass(1);
    sky.jump(1, -1, 0);
    sky.jump(3, -3, 0);
    sky.observe(0);
    sky.go(0, 12, 12);
    sky.jump(0, 50, 0);
    sky.observe(1);
    long[] want = {1, -2, 2, -3, 3};
    for (int i = 0; i < 5; i++) {
      DUE.is("correction of " + i, sky.seen(1, i, 7), want[i]);
    }
  }

  /** Also two USED stars make corrections; a star that the reference did not use has none. */
  private static void correctionOfTwo() {
    Pseudorange sky = cross(0, 0, 0);
    sky.receiver(0, 0, 0);
    sky.refer(1, 0);
    sky.listen(0, 0);
    sky.listen(0, 1);
    sky.observe(0);
    sky.listen(1, 2);
    sky.observe(1);
    // noise of receiver 0: -2 and 1, whose mean is -1, rounded down
    long[] want = {-1, 2, 0};
    for (int i = 0; i < 3; i++) {
      DUE.is("correction of " + i, sky.seen(1, i, 7), want[i]);
    }
  }

  private static void correctionEnds() {
    Pseudorange sky = heardCross(0, 0, 0);
    sky.receiver(0, 0, 0);
    sky.refer(1, 0);
    sky.observe(0);
    sky.pass(5);
    sky.observe(1);
    DUE.is("5 epochs ago", sky.seen(1, 0, 7), -2);
    DUE.is("5 epochs ago", sky.seen(1, 3, 7), 2);
    sky.pass(1);
    sky.observe(1);
    DUE.is("6 epochs ago", sky.seen(1, 0, 7), 0);
    DUE.is("6 epochs ago", sky.seen(1, 3, 7), 0);
    DUE.is("used", sky.seen(1, 3, 6), 1);
    sky.pass(1);
    sky.health(0, false);
    sky.observe(0);
    sky.health(0, true);
    sky.observe(1);
    DUE.is("not used in the latest", sky.seen(1, 0, 7), 0);
  }

  private static void wrongCalls() {
    Pseudorange sky = heardCross(0, 0, 0);
    sky.observe(0);
    DUE.fails(sky, STATE, "observe(0)", () -> sky.observe(0));
    DUE.fails(sky, INDEX, "observe(1)", () -> sky.observe(1));
    DUE.fails(sky, INDEX, "observe(-1)", () -> sky.observe(-1));
    DUE.fails(sky, INDEX, "seen(1, 0, 8)", () -> sky.seen(1, 0, 8));
    DUE.fails(sky, INDEX, "seen(-1, 0, 0)", () -> sky.seen(-1, 0, 0));
    DUE.fails(sky, INDEX, "seen(0, 5, 8)", () -> sky.seen(0, 5, 8));
    DUE.fails(sky, INDEX, "seen(0, -1, 0)", () -> sky.seen(0, -1, 0));
    DUE.fails(sky, ARGUMENT, "seen(0, 0, 8)", () -> sky.seen(0, 0, 8));
    DUE.fails(sky, ARGUMENT, "seen(0, 0, -1)", () -> sky.seen(0, 0, -1));
    DUE.fails(sky, INDEX, "ofReceiver(1, 14)", () -> sky.ofReceiver(1, 14));
    DUE.fails(sky, INDEX, "ofReceiver(-1, 0)", () -> sky.ofReceiver(-1, 0));
    DUE.fails(sky, ARGUMENT, "ofReceiver(0, 14)", () -> sky.ofReceiver(0, 14));
    DUE.fails(sky, ARGUMENT, "ofReceiver(0, -1)", () -> sky.ofReceiver(0, -1));
    DUE.fails(sky, INDEX, "meanError(1)", () -> sky.meanError(1));
    DUE.fails(sky, INDEX, "meanError(-1)", () -> sky.meanError(-1));
  }
}

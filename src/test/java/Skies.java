/** Skies in which the answers can be worked out by hand. */
final class Skies {
  static final int[] CROSS = {0, 9, 39, 3, 45};

  private Skies() {}

  /**
   * STARS at (0, 120) that stand still, heard from (0, 0), with a RECEIVER at (0, 0). From (x, y)
   * their RANGE is 120 - y, so that all places cost the same and the SOLUTION is (-12, 0).
   */
  static Pseudorange above(int stars) {
    Pseudorange sky = new Pseudorange();
    sky.station(0, 0);
    sky.receiver(0, 0, 0);
    for (int i = 0; i < stars; i++) {
      sky.star(120, 0, 0, 0, 0);
      sky.listen(0, i);
    }
    return sky;
  }

  /** As many as can be: 8 STARS, 3 STATIONS, 3 RECEIVERS; all STARS are heard and seen. */
  static Pseudorange most() {
    Pseudorange sky = above(8);
    sky.station(20, 3);
    sky.station(-20, 5);
    sky.receiver(3, 4, 5);
    sky.receiver(-3, 2, 40);
    return sky;
  }

  /**
   * STARS at (0, 120), (90, 30), (-90, 30), (30, 90), (-30, 90) that stand still, with a RECEIVER.
   * From (x, y) their RANGES are 120 - y, 90 - x, 90 + x, 90 - y, 90 - y: these tell the place.
   */
  static Pseudorange cross(int x, int y, int bias) {
    Pseudorange sky = new Pseudorange();
    for (int phase : CROSS) {
      sky.star(120, phase, 0, 0, 0);
    }
    sky.station(50, 0);
    sky.station(-50, 0);
    sky.receiver(x, y, bias);
    return sky;
  }

  /** STAR 2 stands on the left, too far for STATION 0. */
  static void listenTo(Pseudorange sky, int... stars) {
    for (int star : stars) {
      sky.listen(star == 2 || star == 4 ? 1 : 0, star);
    }
  }

  static Pseudorange heardCross(int x, int y, int bias) {
    Pseudorange sky = cross(x, y, bias);
    listenTo(sky, 0, 1, 2, 3, 4);
    return sky;
  }

  /** One STAR at (0, 60), with a RECEIVER at (0, 0) below it. */
  static Pseudorange one(int offset) {
    Pseudorange sky = new Pseudorange();
    sky.star(60, 0, 0, offset, 0);
    sky.receiver(0, 0, 0);
    return sky;
  }

  /** One STAR that stands still, and one STATION. */
  static Pseudorange heardFrom(int x, int radius, int phase) {
    Pseudorange sky = new Pseudorange();
    sky.star(radius, phase, 0, 0, 0);
    sky.station(x, 0);
    return sky;
  }

  static int noise(int epoch, int star, int receiver) {
    return (7 * epoch + 3 * star + 2 * receiver) % 5 - 2;
  }

  /** Lets the clocks of these STARS jump so that their CODES of this EPOCH are without NOISE. */
  static void quiet(Pseudorange sky, int receiver, int... stars) {
    for (int star : stars) {
      sky.jump(star, -noise(sky.many(0), star, receiver), 0);
    }
  }

  /** Lets the clocks of STARS 0, 1, 2 .. jump by so much. */
  static void jump(Pseudorange sky, int... by) {
    for (int star = 0; star < by.length; star++) {
      sky.jump(star, by[star], 0);
    }
  }

  /** Behind the third OBSERVATION every STAR is FIXED, and its MEASURE is without NOISE. */
  static int observeThrice(Pseudorange sky, int receiver) {
    sky.observe(receiver);
    sky.pass(1);
    sky.observe(receiver);
    sky.pass(1);
    return sky.observe(receiver);
  }

  static int passAndObserve(Pseudorange sky, int receiver) {
    sky.pass(1);
    return sky.observe(receiver);
  }

  static void passOften(Pseudorange sky, int times) {
    for (int i = 0; i < times; i++) {
      sky.pass(48);
    }
  }
}

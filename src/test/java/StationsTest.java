/** Promises 6, 7, 18 and 24: stations, and the messages that they send up. */
public final class StationsTest {
  private static final Class<IllegalArgumentException> ARGUMENT = IllegalArgumentException.class;
  private static final Class<IllegalStateException> STATE = IllegalStateException.class;
  private static final Class<IndexOutOfBoundsException> INDEX = IndexOutOfBoundsException.class;
  private static final Due DUE = new Due();

  public static void main(String[] args) {
    station();
    whatCanBeHeard();
    message();
    toldDrift();
    toldAbove999();
    wrongCalls();
    heardIn();
    DUE.end();
  }

  private static void messageIs(Pseudorange sky, int star, long... want) {
    for (int what = 0; what <= 7; what++) {
      DUE.is("message(" + star + ", " + what + ")", sky.message(star, what), want[what]);
    }
  }

  private static void station() {
    Pseudorange sky = new Pseudorange();
    DUE.fails(sky, ARGUMENT, "x -51", () -> sky.station(-51, 0));
    DUE.fails(sky, ARGUMENT, "x 51", () -> sky.station(51, 0));
    DUE.fails(sky, ARGUMENT, "delay -1", () -> sky.station(0, -1));
    DUE.fails(sky, ARGUMENT, "delay 10", () -> sky.station(0, 10));
    DUE.is("station", sky.station(-50, 0), 0);
    DUE.is("station", sky.station(50, 9), 1);
    DUE.is("station", sky.station(0, 5), 2);
    DUE.fails(sky, STATE, "a fourth station", () -> sky.station(0, 5));
    DUE.fails(sky, ARGUMENT, "a fourth and wrong one", () -> sky.station(0, 10));
    DUE.is("many(2)", sky.many(2), 3);
  }

  /** The star stands at (90, 30): up to 60 in x are near enough. */
  private static void whatCanBeHeard() {
    Pseudorange sky = new Pseudorange();
    sky.star(120, 9, 0, 0, 0);
    sky.station(30, 0);
    sky.station(29, 0);
    DUE.is("just near enough", sky.listen(0, 0), 1);
    DUE.fails(sky, STATE, "one too far", () -> sky.listen(1, 0));
    sky.health(0, false);
    DUE.fails(sky, STATE, "not healthy", () -> sky.listen(0, 0));

    Pseudorange low = new Pseudorange();
    low.star(60, 10, 0, 0, 0);
    low.star(60, 11, 0, 0, 0);
    low.star(60, 38, 0, 0, 0);
    low.station(50, 0);
    low.station(-50, 0);
    DUE.is("y of it", low.ofStar(0, 7), 10);
    DUE.is("10 is high enough", low.listen(0, 0), 1);
    DUE.is("y of it", low.ofStar(1, 7), 5);
    DUE.fails(low, STATE, "5 is too low", () -> low.listen(0, 1));
    DUE.is("to the left too", low.listen(1, 2), 1);
    DUE.fails(low, STATE, "too far to the left", () -> low.listen(0, 2));

    Pseudorange nine = new Pseudorange();
    nine.star(109, 11, 0, 0, 0);
    nine.star(120, 11, 0, 0, 0);
    nine.star(110, 13, 0, 0, 0);
    nine.station(50, 0);
    DUE.is("y of it", nine.ofStar(0, 7), 9);
    DUE.fails(nine, STATE, "9 is too low", () -> nine.listen(0, 0));
    DUE.fails(nine, STATE, "10, but too far", () -> nine.listen(0, 1));
    DUE.fails(nine, STATE, "below the ground", () -> nine.listen(0, 2));
  }

  private static void message() {
    Pseudorange sky = new Pseudorange();
    sky.star(120, 0, 1, 10, 2);
    sky.station(0, 4);
    messageIs(sky, 0, 0, -1, -1, 0, 0, 0, 0, 0);
    DUE.is("first issue", sky.listen(0, 0), 1);
    messageIs(sky, 0, 1, 0, 0, 14, 0, 1, 4, 0);
    sky.pass(2);
    messageIs(sky, 0, 1, 0, 0, 14, 0, 1, 0, 0);
    DUE.is("second issue", sky.listen(0, 0), 2);
    messageIs(sky, 0, 2, 2, 2, 18, 2, 1, 4, 0);
    DUE.is("once more in the same epoch", sky.listen(0, 0), 3);
    messageIs(sky, 0, 3, 2, 2, 18, 2, 1, 4, 0);
    sky.pass(12);
    messageIs(sky, 0, 3, 2, 2, 18, 2, 1, 4, 0);
    DUE.is("many(5)", sky.many(5), 1);
    DUE.is("many(6)", sky.many(6), 3);
    sky.pass(1);
    messageIs(sky, 0, 3, 2, 2, 18, 2, 0, 4, 0);
    DUE.is("many(5)", sky.many(5), 0);
    sky.push(0, -3);
    sky.jump(0, -50, 0);
    // by its message at PHASE 15: (90, -30); it is at 12: (120, 0)
    messageIs(sky, 0, 3, 2, 2, 18, 2, 0, 54, 30);
    sky.health(0, false);
    messageIs(sky, 0, 3, 2, 2, 18, 2, 0, 54, 30);
    sky.pass(33);
    sky.health(0, true);
    DUE.is("a later issue", sky.listen(0, 0), 4);
    messageIs(sky, 0, 4, 48, 45, -6, 0, 1, 4, 0);
    sky.health(0, false);
    DUE.is("it holds, healthy or not", sky.message(0, 5), 1);
    DUE.is("many(5)", sky.many(5), 1);
  }

  /** What is told of the drift is cut towards 0 and held, and stays within one epoch. */
  private static void toldDrift() {
    Pseudorange sky = new Pseudorange();
    sky.star(120, 0, 0, 0, 0);
    sky.station(0, 0);
    sky.station(0, 9);
    sky.listen(0, 0);
    sky.pass(3);
    sky.jump(0, -5, 0);
    sky.listen(0, 0);
    DUE.is("-5 in 3", sky.message(0, 4), -1);
    sky.pass(1);
    sky.jump(0, 10, 0);
    sky.listen(0, 0);
    DUE.is("10 in 1", sky.message(0, 4), 9);
    sky.listen(1, 0);
    DUE.is("none passed", sky.message(0, 4), 9);
    DUE.is("but the other air", sky.message(0, 3), 14);
    sky.pass(1);
    sky.jump(0, -99, 0);
    sky.listen(0, 0);
    DUE.is("-99 and -9 in 1", sky.message(0, 4), -9);
    sky.pass(2);
    sky.listen(1, 0);
    DUE.is("9 in 2, of the air alone", sky.message(0, 4), 4);
    sky.pass(20);
    sky.listen(1, 0);
    DUE.is("also of a message that did not hold", sky.message(0, 4), 0);
  }

  private static void toldAbove999() {
    Pseudorange sky = new Pseudorange();
    sky.star(120, 0, 0, 500, 0);
    sky.station(0, 9);
    for (int i = 0; i < 6; i++) {
      sky.jump(0, 99, 3);
    }
    sky.listen(0, 0);
    DUE.is("the told offset is not held", sky.message(0, 3), 1008);
    DUE.is("how far it is", sky.message(0, 6), 9);
  }

  private static void wrongCalls() {
    Pseudorange sky = new Pseudorange();
    sky.star(120, 24, 0, 0, 0);
    sky.station(0, 0);
    DUE.fails(sky, INDEX, "listen(1, 0)", () -> sky.listen(1, 0));
    DUE.fails(sky, INDEX, "listen(-1, 0)", () -> sky.listen(-1, 0));
    DUE.fails(sky, INDEX, "listen(0, 1)", () -> sky.listen(0, 1));
    DUE.fails(sky, INDEX, "listen(0, -1)", () -> sky.listen(0, -1));
    DUE.fails(sky, STATE, "listen(0, 0)", () -> sky.listen(0, 0));
    DUE.fails(sky, INDEX, "message(1, 8)", () -> sky.message(1, 8));
    DUE.fails(sky, INDEX, "message(-1, 0)", () -> sky.message(-1, 0));
    DUE.fails(sky, ARGUMENT, "message(0, 8)", () -> sky.message(0, 8));
    DUE.fails(sky, ARGUMENT, "message(0, -1)", () -> sky.message(0, -1));
    DUE.fails(sky, INDEX, "heardIn(1, 0)", () -> sky.heardIn(1, 0));
    DUE.fails(sky, INDEX, "heardIn(-1, 0)", () -> sky.heardIn(-1, 0));
    DUE.fails(sky, INDEX, "heardIn(0, 1)", () -> sky.heardIn(0, 1));
    DUE.fails(sky, INDEX, "heardIn(0, -1)", () -> sky.heardIn(0, -1));
  }

  private static void heardIn() {
    Pseudorange sky = new Pseudorange();
    sky.star(120, 0, 0, 0, 0);
    sky.star(120, 24, 1, 0, 0);
    sky.star(120, 24, 0, 0, 0);
    sky.star(120, 10, 1, 0, 0);
    sky.star(120, 9, -1, 0, 0);
    sky.station(0, 0);
    sky.station(30, 0);
    DUE.is("now", sky.heardIn(0, 0), 0);
    // it comes up on the left: at PHASE 40 it is at (-80, 40), from 0 near enough
    DUE.is("on its way", sky.heardIn(1, 0), 16);
    // from 30 it is not before PHASE 41: (-70, 50)
    DUE.is("on its way", sky.heardIn(1, 1), 17);
    DUE.is("never", sky.heardIn(2, 0), -1);
    DUE.is("nearly once around", sky.heardIn(3, 0), 30);
    DUE.is("in one", sky.heardIn(4, 0), 1);
    DUE.is("now", sky.heardIn(4, 1), 0);
    sky.health(0, false);
    DUE.is("not healthy", sky.heardIn(0, 0), -1);
    DUE.is("nothing passed", sky.many(0), 0);
    DUE.is("nothing was heard", sky.many(6), 0);
  }
}

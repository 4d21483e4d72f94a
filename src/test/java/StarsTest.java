/** Promises 1 to 5, 15 and 17: a new sky, its stars and its epochs. */
public final class StarsTest {
  private static final Class<IllegalArgumentException> ARGUMENT = IllegalArgumentException.class;
  private static final Class<IllegalStateException> STATE = IllegalStateException.class;
  private static final Class<IndexOutOfBoundsException> INDEX = IndexOutOfBoundsException.class;
  private static final Due DUE = new Due();

  public static void main(String[] args) {
    newObject();
    star();
    wrongStars();
    eightStars();
    places();
    push();
    jump();
    health();
    pass();
    wrongOfStar();
    DUE.end();
  }

  private static void newObject() {
    Pseudorange sky = new Pseudorange();
    for (int what = 0; what <= 8; what++) {
      DUE.is("many of a new sky", sky.many(what), 0);
    }
    DUE.fails(sky, INDEX, "ofStar(0, 0)", () -> sky.ofStar(0, 0));
    DUE.fails(sky, INDEX, "ofReceiver(0, 0)", () -> sky.ofReceiver(0, 0));
    long d = 58189;
    for (int i = 0; i < 9; i++) {
      d *= 31;
    }
    DUE.is("digest of a new sky", sky.digest(), d);
  }

  private static void star() {
    Pseudorange sky = new Pseudorange();
    DUE.is("star", sky.star(60, 0, -3, -500, -3), 0);
    DUE.is("star", sky.star(200, 47, 3, 500, 3), 1);
    long[] first = {60, 0, -3, -500, -3, 1, 0, 60};
    long[] second = {200, 47, 3, 500, 3, 1, -16, 183};
    for (int what = 0; what <= 7; what++) {
      DUE.is("ofStar(0, " + what + ")", sky.ofStar(0, what), first[what]);
      DUE.is("ofStar(1, " + what + ")", sky.ofStar(1, what), second[what]);
    }
    DUE.is("many(1)", sky.many(1), 2);
    DUE.is("many(4)", sky.many(4), 2);
  }

  private static void wrongStars() {
    Pseudorange sky = new Pseudorange();
    DUE.fails(sky, ARGUMENT, "radius 59", () -> sky.star(59, 0, 0, 0, 0));
    DUE.fails(sky, ARGUMENT, "radius 201", () -> sky.star(201, 0, 0, 0, 0));
    DUE.fails(sky, ARGUMENT, "phase -1", () -> sky.star(60, -1, 0, 0, 0));
    DUE.fails(sky, ARGUMENT, "phase 48", () -> sky.star(60, 48, 0, 0, 0));
    DUE.fails(sky, ARGUMENT, "spin -4", () -> sky.star(60, 0, -4, 0, 0));
    DUE.fails(sky, ARGUMENT, "spin 4", () -> sky.star(60, 0, 4, 0, 0));
    DUE.fails(sky, ARGUMENT, "offset -501", () -> sky.star(60, 0, 0, -501, 0));
    DUE.fails(sky, ARGUMENT, "offset 501", () -> sky.star(60, 0, 0, 501, 0));
    DUE.fails(sky, ARGUMENT, "drift -4", () -> sky.star(60, 0, 0, 0, -4));
    DUE.fails(sky, ARGUMENT, "drift 4", () -> sky.star(60, 0, 0, 0, 4));
    DUE.fails(sky, ARGUMENT, "least int", () -> sky.star(Integer.MIN_VALUE, 0, 0, 0, 0));
    DUE.fails(sky, ARGUMENT, "greatest int", () -> sky.star(60, Integer.MAX_VALUE, 0, 0, 0));
  }

  private static void eightStars() {
    Pseudorange sky = new Pseudorange();
    for (int i = 0; i < 8; i++) {
      DUE.is("star", sky.star(100, i, 0, 0, 0), i);
    }
    DUE.fails(sky, STATE, "a ninth star", () -> sky.star(100, 0, 0, 0, 0));
    DUE.fails(sky, ARGUMENT, "a ninth and wrong star", () -> sky.star(10, 0, 0, 0, 0));
    DUE.is("many(1)", sky.many(1), 8);
  }

  /** Around the whole way: T goes 0, 12, 0, -12, 0; both parts are cut towards 0. */
  private static void places() {
    int[] phases = {0, 1, 11, 12, 13, 23, 24, 25, 35, 36, 37, 47};
    int[] x = {0, 8, 91, 100, 91, 8, 0, -8, -91, -100, -91, -8};
    int[] y = {100, 91, 8, 0, -8, -91, -100, -91, -8, 0, 8, 91};
    for (int i = 0; i < phases.length; i++) {
      Pseudorange sky = new Pseudorange();
      sky.star(100, phases[i], 0, 0, 0);
      DUE.is("x at " + phases[i], sky.ofStar(0, 6), x[i]);
      DUE.is("y at " + phases[i], sky.ofStar(0, 7), y[i]);
    }
  }

  private static void push() {
    Pseudorange sky = new Pseudorange();
    sky.star(100, 46, 1, 0, 0);
    DUE.is("push 5", sky.push(0, 5), 3);
    DUE.is("push -5", sky.push(0, -5), 46);
    DUE.is("push 2", sky.push(0, 2), 0);
    DUE.is("push -1", sky.push(0, -1), 47);
    DUE.is("push 0", sky.push(0, 0), 47);
    DUE.is("its phase", sky.ofStar(0, 1), 47);
    DUE.fails(sky, ARGUMENT, "push by -6", () -> sky.push(0, -6));
    DUE.fails(sky, ARGUMENT, "push by 6", () -> sky.push(0, 6));
    DUE.fails(sky, INDEX, "push 1", () -> sky.push(1, 0));
    DUE.fails(sky, INDEX, "push -1 by 6", () -> sky.push(-1, 6));
  }

  private static void jump() {
    Pseudorange sky = new Pseudorange();
    sky.star(100, 0, 0, 500, 0);
    DUE.is("jump 99", sky.jump(0, 99, 3), 599);
    DUE.is("its drift", sky.ofStar(0, 4), 3);
    for (int i = 0; i < 4; i++) {
      sky.jump(0, 99, 3);
    }
    DUE.is("jump to 995", sky.ofStar(0, 3), 995);
    DUE.is("held above", sky.jump(0, 99, -3), 999);
    for (int i = 0; i < 20; i++) {
      sky.jump(0, -99, -3);
    }
    DUE.is("far below", sky.ofStar(0, 3), 999 - 1980);
    DUE.is("held below", sky.jump(0, -99, -2), -999);
    DUE.is("its drift", sky.ofStar(0, 4), -2);
    DUE.fails(sky, ARGUMENT, "jump -100", () -> sky.jump(0, -100, 0));
    DUE.fails(sky, ARGUMENT, "jump 100", () -> sky.jump(0, 100, 0));
    DUE.fails(sky, ARGUMENT, "drift -4", () -> sky.jump(0, 0, -4));
    DUE.fails(sky, ARGUMENT, "drift 4", () -> sky.jump(0, 0, 4));
    DUE.fails(sky, INDEX, "star 1", () -> sky.jump(1, 100, 4));
    DUE.fails(sky, INDEX, "star -1", () -> sky.jump(-1, 0, 0));
  }

  private static void health() {
    Pseudorange sky = new Pseudorange();
    sky.star(100, 0, 0, 0, 0);
    sky.star(100, 0, 0, 0, 0);
    DUE.is("healthy at first", sky.health(0, false), true);
    DUE.is("not any more", sky.health(0, false), false);
    DUE.is("ofStar(0, 5)", sky.ofStar(0, 5), 0);
    DUE.is("many(4)", sky.many(4), 1);
    DUE.is("again", sky.health(0, true), false);
    DUE.is("ofStar(0, 5)", sky.ofStar(0, 5), 1);
    DUE.fails(sky, INDEX, "health 2", () -> sky.health(2, true));
    DUE.fails(sky, INDEX, "health -1", () -> sky.health(-1, false));
  }

  private static void pass() {
    Pseudorange sky = new Pseudorange();
    sky.star(100, 46, 3, 495, 3);
    sky.star(100, 1, -3, -500, -3);
    DUE.is("pass 1", sky.pass(1), 1);
    DUE.is("phase goes round", sky.ofStar(0, 1), 1);
    DUE.is("phase goes back", sky.ofStar(1, 1), 46);
    DUE.is("offset", sky.ofStar(0, 3), 498);
    DUE.is("offset", sky.ofStar(1, 3), -503);
    DUE.is("pass 48", sky.pass(48), 49);
    DUE.is("a whole round", sky.ofStar(0, 1), 1);
    DUE.is("offset", sky.ofStar(0, 3), 642);
    for (int i = 0; i < 3; i++) {
      sky.pass(48);
    }
    DUE.is("held above", sky.ofStar(0, 3), 999);
    DUE.is("held below", sky.ofStar(1, 3), -999);
    DUE.is("many(0)", sky.many(0), 193);
    sky.jump(0, 0, -1);
    sky.pass(1);
    DUE.is("down from where it is held", sky.ofStar(0, 3), 998);
    DUE.fails(sky, ARGUMENT, "pass 0", () -> sky.pass(0));
    DUE.fails(sky, ARGUMENT, "pass 49", () -> sky.pass(49));
    DUE.fails(sky, ARGUMENT, "pass -1", () -> sky.pass(-1));
  }

  private static void wrongOfStar() {
    Pseudorange sky = new Pseudorange();
    sky.star(100, 0, 0, 0, 0);
    DUE.fails(sky, ARGUMENT, "ofStar(0, -1)", () -> sky.ofStar(0, -1));
    DUE.fails(sky, ARGUMENT, "ofStar(0, 8)", () -> sky.ofStar(0, 8));
    DUE.fails(sky, INDEX, "ofStar(1, 8)", () -> sky.ofStar(1, 8));
    DUE.fails(sky, INDEX, "ofStar(-1, 0)", () -> sky.ofStar(-1, 0));
    DUE.fails(sky, INDEX, "ofStar(8, 0)", () -> sky.ofStar(8, 0));
  }
}

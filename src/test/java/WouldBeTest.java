/** Promises 21, 23 and 25 to 27: what is counted, what would be, and the digest. */
public final class WouldBeTest {
  private static final Class<IllegalArgumentException> ARGUMENT = IllegalArgumentException.class;
  private static final Class<IndexOutOfBoundsException> INDEX = IndexOutOfBoundsException.class;
  private static final Due DUE = new Due();

  public static void main(String[] args) {
    many();
    wouldSee();
    without();
    notFixed();
    withCorrections();
    wouldAlarm();
    digest();
    wrongCalls();
    DUE.end();
  }

  /** Stars at (0, 120), (90, 30), (-90, 30), (30, 90), (-30, 90), that stand still, and heard. */
  private static Pseudorange heardCross(int x, int y, int bias) {
    Pseudorange sky = new Pseudorange();
    int[] phases = {0, 9, 39, 3, 45};
    for (int phase : phases) {
      sky.star(120, phase, 0, 0, 0);
    }
    sky.station(50, 0);
    sky.station(-50, 0);
    sky.receiver(x, y, bias);
    sky.listen(0, 0);
    sky.listen(0, 1);
    sky.listen(1, 2);
    sky.listen(0, 3);
    sky.listen(1, 4);
    return sky;
  }

  private static void observeThrice(Pseudorange sky, int receiver) {
    sky.observe(receiver);
    sky.pass(1);
    sky.observe(receiver);
    sky.pass(1);
    sky.observe(receiver);
  }

  private static void many() {
    Pseudorange sky = heardCross(0, 0, 0);
    sky.receiver(1, 1, 0);
    sky.listen(0, 0);
    sky.health(1, false);
    sky.pass(12);
    sky.listen(0, 0);
    sky.observe(0);
    sky.observe(1);
    sky.pass(1);
    sky.observe(0);
    long[] want = {13, 5, 2, 2, 4, 1, 7, 3};
    for (int what = 0; what <= 7; what++) {
      DUE.is("many(" + what + ")", sky.many(what), want[what]);
    }
  }

  /** PHASE 11 is seen on the right, 37 on the left; the first one goes down, the second one up. */
  private static void wouldSee() {
    Pseudorange sky = new Pseudorange();
    sky.star(120, 10, 1, 0, 0);
    sky.star(120, 36, 1, 0, 0);
    sky.star(120, 24, -3, 0, 0);
    sky.star(120, 0, 0, 0, 0);
    sky.receiver(0, 0, 0);
    DUE.is("now", sky.wouldSee(0, 0), 0b1001);
    DUE.is("in 1", sky.wouldSee(0, 1), 0b1011);
    DUE.is("in 2", sky.wouldSee(0, 2), 0b1010);
    DUE.is("in 4", sky.wouldSee(0, 4), 0b1010);
    DUE.is("in 5", sky.wouldSee(0, 5), 0b1110);
    DUE.is("in 48", sky.wouldSee(0, 48), 0b1001);
    sky.health(3, false);
    DUE.is("as healthy as now", sky.wouldSee(0, 5), 0b0110);
    sky.hills(0, 5, 11);
    DUE.is("with the hills of now", sky.wouldSee(0, 1), 0b0010);
    DUE.is("nothing passed", sky.many(0), 0);
    DUE.is("the phase stays", sky.ofStar(0, 1), 10);
  }

  /** Worked by hand for noise -2, 1, -1, 2, 0: see ObserveTest. */
  private static void without() {
    Pseudorange sky = heardCross(0, 0, 0);
    int[] want = {1100, 1100, 1100, 1101, 1100};
    for (int star = 0; star < 5; star++) {
      DUE.is("without " + star, sky.without(0, star), want[star]);
    }
    DUE.is("nothing was observed", sky.many(7), 0);
    DUE.is("nothing is known", sky.ofReceiver(0, 4), 0);
    DUE.is("nothing is seen", sky.seen(0, 0, 0), -1);
    sky.observe(0);
    DUE.is("also then", sky.without(0, 3), 1101);
    DUE.is("the solution stays", sky.ofReceiver(0, 6), 0);
    sky.health(3, false);
    DUE.is("without one that is not seen", sky.without(0, 3), 1101);
    sky.health(4, false);
    DUE.is("two are too few", sky.without(0, 0), -1);
    DUE.is("three are enough", sky.without(0, 3) == -1, false);
    sky.pass(13);
    sky.health(3, true);
    sky.health(4, true);
    DUE.is("without messages", sky.without(0, 0), -1);
  }

  /** The third observation is exact; what would be has the noise 2, 0, -2, 1, -1 and weights 2, 1. */
  private static void notFixed() {
    Pseudorange sky = heardCross(0, 0, 0);
    observeThrice(sky, 0);
    DUE.is("it is fixed", sky.seen(0, 0, 5), 1);
    DUE.is("cost", sky.ofReceiver(0, 8), 0);
    DUE.is("alarm", sky.wouldAlarm(0), 0);
    Pseudorange fresh = heardCross(0, 0, 0);
    fresh.pass(2);
    for (int star = 0; star < 5; star++) {
      DUE.is("as without any observation", sky.without(0, star), fresh.without(0, star));
    }
    // OVER x, -2 - x, 1 + y, -1 + y: TIME -1 and cost 8 at x -1 and y 0, 10 at y 1
    DUE.is("without star 0", fresh.without(0, 0), 1100);
    // OVER 2 + y, x, -2 - x, -1 + y: TIME 0 and cost 12 at x -1 and y 0
    DUE.is("without star 3", fresh.without(0, 3), 1100);
  }

  /** The reference stands at the same place with the same noise: what is left is nothing. */
  private static void withCorrections() {
    Pseudorange sky = heardCross(3, 5, 0);
    sky.receiver(3, 5, 9);
    sky.alert(1, 24);
    sky.jump(1, 90, 0);
    sky.jump(3, -90, 0);
    sky.observe(0);
    DUE.is("alarm without a reference", sky.wouldAlarm(1), 2);
    sky.refer(1, 0);
    DUE.is("alarm with it", sky.wouldAlarm(1), 0);
    DUE.is("without star 0", sky.without(1, 0) == -1, false);
    sky.pass(6);
    DUE.is("too old", sky.wouldAlarm(1), 2);
  }

  private static void wouldAlarm() {
    Pseudorange sky = heardCross(0, 0, 0);
    DUE.is("level 4", sky.wouldAlarm(0), 0);
    sky.alert(0, 4);
    DUE.is("level 4", sky.wouldAlarm(0), 0);
    sky.alert(0, 3);
    DUE.is("level 4 is above 3", sky.wouldAlarm(0), 3);
    sky.jump(1, 99, 0);
    DUE.is("the cost", sky.wouldAlarm(0), 2);
    sky.health(0, false);
    sky.health(1, false);
    DUE.is("three are too few", sky.wouldAlarm(0), 1);
    DUE.is("nothing was observed", sky.many(7), 0);
    DUE.is("no alarm was", sky.ofReceiver(0, 12), -1);
    noLeap();
  }

  private static void noLeap() {
    Pseudorange sky = heardCross(-6, 0, 0);
    sky.alert(0, 24);
    observeThrice(sky, 0);
    sky.go(0, 6, 0);
    sky.pass(1);
    DUE.is("without the alarm 4", sky.wouldAlarm(0), 0);
    DUE.is("that there is", sky.observe(0), 4);
    DUE.is("also then", sky.wouldAlarm(0), 0);
  }

  private static void digest() {
    Pseudorange sky = new Pseudorange();
    agree(sky);
    sky = heardCross(3, 4, 5);
    agree(sky);
    sky.receiver(-3, 2, 40);
    sky.refer(1, 0);
    sky.star(70, 20, 3, 100, -2);
    observeThrice(sky, 0);
    sky.observe(1);
    agree(sky);
    long before = sky.digest();
    DUE.is("asking changes nothing", sky.digest(), before);
    sky.pass(1);
    agree(sky);
    sky.health(0, false);
    sky.health(1, false);
    sky.observe(0);
    agree(sky);
    Pseudorange stars = new Pseudorange();
    stars.star(60, 0, 0, 0, 0);
    agree(stars);
  }

  private static void agree(Pseudorange sky) {
    DUE.is("digest", sky.digest(), summedUp(sky));
  }

  private static long summedUp(Pseudorange sky) {
    long d = 58189;
    for (int what = 0; what <= 8; what++) {
      d = d * 31 + sky.many(what);
    }
    for (int star = 0; star < sky.many(1); star++) {
      for (int what = 0; what <= 7; what++) {
        d = d * 31 + sky.ofStar(star, what);
      }
      for (int what = 0; what <= 7; what++) {
        d = d * 31 + sky.message(star, what);
      }
      for (int station = 0; station < sky.many(2); station++) {
        d = d * 31 + sky.heardIn(star, station);
      }
    }
    for (int receiver = 0; receiver < sky.many(3); receiver++) {
      for (int what = 0; what <= 13; what++) {
        d = d * 31 + sky.ofReceiver(receiver, what);
      }
      for (int star = 0; star < sky.many(1); star++) {
        for (int what = 0; what <= 7; what++) {
          d = d * 31 + sky.seen(receiver, star, what);
        }
      }
      d = d * 31 + sky.wouldSee(receiver, 6);
    }
    return sky.many(3) == 0 ? d : d * 31 + sky.wouldAlarm(0);
  }

  private static void wrongCalls() {
    Pseudorange sky = heardCross(0, 0, 0);
    DUE.fails(sky, ARGUMENT, "many(-1)", () -> sky.many(-1));
    DUE.fails(sky, ARGUMENT, "many(9)", () -> sky.many(9));
    DUE.fails(sky, INDEX, "wouldSee(1, 49)", () -> sky.wouldSee(1, 49));
    DUE.fails(sky, INDEX, "wouldSee(-1, 0)", () -> sky.wouldSee(-1, 0));
    DUE.fails(sky, ARGUMENT, "wouldSee(0, 49)", () -> sky.wouldSee(0, 49));
    DUE.fails(sky, ARGUMENT, "wouldSee(0, -1)", () -> sky.wouldSee(0, -1));
    DUE.fails(sky, INDEX, "without(1, 0)", () -> sky.without(1, 0));
    DUE.fails(sky, INDEX, "without(-1, 0)", () -> sky.without(-1, 0));
    DUE.fails(sky, INDEX, "without(0, 5)", () -> sky.without(0, 5));
    DUE.fails(sky, INDEX, "without(0, -1)", () -> sky.without(0, -1));
    DUE.fails(sky, INDEX, "wouldAlarm(1)", () -> sky.wouldAlarm(1));
    DUE.fails(sky, INDEX, "wouldAlarm(-1)", () -> sky.wouldAlarm(-1));
  }
}

/** The boundary cases of promises 17, 18 and 21: STARS, their MESSAGES, and what is counted. */
public final class AskEdgesTest {
  private static final Class<IllegalArgumentException> ARGUMENT = IllegalArgumentException.class;
  private static final Class<IndexOutOfBoundsException> INDEX = IndexOutOfBoundsException.class;
  private static final int HOLDS = 5;
  private static final int CLOCK = 6;
  private static final int PLACE = 7;

  public static void main(String[] args) {
    Numbered.run(AskEdgesTest.class, 17, 18, 21);
  }

  // ---- promise 17

  static void p17_numbersAre0To7(Due due) {
    due.limits("STAR", 0, 7, INDEX, Skies::most, (sky, v) -> sky.ofStar(v, 0));
    due.limits("STAR of two", 0, 1, INDEX, () -> Skies.above(2), (sky, v) -> sky.ofStar(v, 0));
  }

  static void p17_whatIs0To7(Due due) {
    due.limits("what", 0, 7, ARGUMENT, Skies::most, (sky, v) -> sky.ofStar(0, v));
  }

  static void p17_noSuchStarIsNamedFirst(Due due) {
    Pseudorange sky = Skies.above(2);
    due.fails(sky, INDEX, "ofStar(2, 8)", () -> sky.ofStar(2, 8));
    due.fails(sky, INDEX, "ofStar(-1, -1)", () -> sky.ofStar(-1, -1));
  }

  private static void placeOf(Due due, int radius, int phase, int x, int y) {
    Pseudorange sky = new Pseudorange();
    sky.star(radius, phase, 0, 0, 0);
    due.is("x of " + radius + " at " + phase, sky.ofStar(0, 6), x);
    due.is("y of " + radius + " at " + phase, sky.ofStar(0, 7), y);
  }

  /** T of the PHASE turns at 12, T of the PHASE and 12 at 0 (and 48). */
  static void p17_tTurnsAt12(Due due) {
    placeOf(due, 120, 11, 110, 10);
    placeOf(due, 120, 12, 120, 0);
    placeOf(due, 120, 13, 110, -10);
    placeOf(due, 120, 0, 0, 120);
    placeOf(due, 120, 1, 10, 110);
  }

  static void p17_tTurnsAt36(Due due) {
    placeOf(due, 120, 35, -110, -10);
    placeOf(due, 120, 36, -120, 0);
    placeOf(due, 120, 37, -110, 10);
    placeOf(due, 120, 23, 10, -110);
    placeOf(due, 120, 24, 0, -120);
    placeOf(due, 120, 25, -10, -110);
  }

  static void p17_tIsModulo48(Due due) {
    placeOf(due, 120, 46, -20, 100);
    placeOf(due, 120, 47, -10, 110);
    placeOf(due, 120, 34, -100, -20);
    placeOf(due, 120, 38, -100, 20);
  }

  /** 71 by 12 is 5.9.., 71 times 11 by 12 is 65.08..; 199 by 12 is 16.6.., times 11 182.4... */
  static void p17_itsPlaceIsRoundedTowards0(Due due) {
    placeOf(due, 71, 1, 5, 65);
    placeOf(due, 71, 13, 65, -5);
    placeOf(due, 71, 25, -5, -65);
    placeOf(due, 71, 37, -65, 5);
    placeOf(due, 199, 11, 182, 16);
    placeOf(due, 199, 23, 16, -182);
    placeOf(due, 199, 35, -182, -16);
    placeOf(due, 199, 47, -16, 182);
    placeOf(due, 60, 12, 60, 0);
    placeOf(due, 200, 36, -200, 0);
  }

  static void p17_asItStandsInThisEpoch(Due due) {
    Pseudorange sky = new Pseudorange();
    sky.star(120, 47, 3, 0, 0);
    due.is("x", sky.ofStar(0, 6), -10);
    due.is("y", sky.ofStar(0, 7), 110);
    sky.pass(1);
    due.is("x one EPOCH on", sky.ofStar(0, 6), 20);
    due.is("y one EPOCH on", sky.ofStar(0, 7), 100);
  }

  static void p17_healthyIs1OtherwiseIs0(Due due) {
    Pseudorange sky = Skies.above(1);
    due.is("HEALTHY", sky.ofStar(0, 5), 1);
    sky.health(0, false);
    due.is("not HEALTHY", sky.ofStar(0, 5), 0);
  }

  // ---- promise 18

  private static void messageIs(Due due, Pseudorange sky, int... want) {
    for (int what = 0; what < want.length; what++) {
      due.is("message(0, " + what + ")", sky.message(0, what), want[what]);
    }
  }

  static void p18_numbersAre0To7(Due due) {
    due.limits("STAR", 0, 7, INDEX, Skies::most, (sky, v) -> sky.message(v, 0));
    due.limits("STAR of two", 0, 1, INDEX, () -> Skies.above(2), (sky, v) -> sky.message(v, 0));
  }

  static void p18_whatIs0To7(Due due) {
    due.limits("what", 0, 7, ARGUMENT, Skies::most, (sky, v) -> sky.message(0, v));
    due.limits("what without one", 0, 7, ARGUMENT, () -> Skies.one(0), (sky, v) -> sky.message(0, v));
  }

  static void p18_noSuchStarIsNamedFirst(Due due) {
    Pseudorange sky = Skies.above(2);
    due.fails(sky, INDEX, "message(2, 8)", () -> sky.message(2, 8));
    due.fails(sky, INDEX, "message(-1, -1)", () -> sky.message(-1, -1));
  }

  static void p18_withoutOne(Due due) {
    Pseudorange sky = new Pseudorange();
    sky.star(200, 7, 3, 500, 3);
    messageIs(due, sky, 0, -1, -1, 0, 0, 0, 0, 0);
    sky.pass(48);
    sky.push(0, 5);
    messageIs(due, sky, 0, -1, -1, 0, 0, 0, 0, 0);
  }

  static void p18_ofThisEpoch(Due due) {
    messageIs(due, Skies.above(1), 1, 0, 0, 0, 0, 1, 0, 0);
  }

  static void p18_itHoldsFor12(Due due) {
    int[] epochs = {1, 11, 12, 13, 14, 48};
    int[] holds = {1, 1, 1, 0, 0, 0};
    for (int i = 0; i < epochs.length; i++) {
      Pseudorange sky = Skies.above(1);
      sky.pass(epochs[i]);
      due.is("behind " + epochs[i], sky.message(0, HOLDS), holds[i]);
    }
  }

  static void p18_itHoldsAgainWhenHeardAgain(Due due) {
    Pseudorange sky = Skies.above(1);
    sky.pass(13);
    due.is("behind 13", sky.message(0, HOLDS), 0);
    sky.listen(0, 0);
    due.is("heard again", sky.message(0, HOLDS), 1);
    sky.pass(12);
    due.is("behind 12", sky.message(0, HOLDS), 1);
    sky.pass(1);
    due.is("behind 13", sky.message(0, HOLDS), 0);
  }

  static void p18_itHoldsAlsoOfOneThatIsNotHealthy(Due due) {
    Pseudorange sky = Skies.above(1);
    sky.health(0, false);
    sky.pass(12);
    due.is("behind 12", sky.message(0, HOLDS), 1);
  }

  static void p18_howFarTheClockIsWithoutSign(Due due) {
    int[] jumps = {-99, -1, 0, 1, 99};
    int[] far = {99, 1, 0, 1, 99};
    for (int i = 0; i < jumps.length; i++) {
      Pseudorange sky = Skies.above(1);
      sky.jump(0, jumps[i], 0);
      due.is("by " + jumps[i], sky.message(0, CLOCK), far[i]);
    }
  }

  /** The OFFSET is held to 999, that by the MESSAGE goes on: 998, 1001, 1004, 1007. */
  static void p18_theClockByTheMessageIsNotHeld(Due due) {
    Pseudorange sky = new Pseudorange();
    sky.star(60, 0, 0, 500, 3);
    sky.station(0, 0);
    for (int i = 0; i < 5; i++) {
      sky.jump(0, 99, 3);
    }
    sky.listen(0, 0);
    sky.pass(1);
    sky.listen(0, 0);
    messageIs(due, sky, 2, 1, 0, 998, 3, 1, 0, 0);
    sky.pass(1);
    due.is("1001 and 999", sky.message(0, CLOCK), 2);
    sky.pass(2);
    due.is("1007 and 999", sky.message(0, CLOCK), 8);
  }

  /** Both go on with the SPIN over 47 and 0; pushed by 1 it is (10, 110) instead of (0, 120). */
  static void p18_itsPlaceByTheMessageWraps(Due due) {
    int[] phases = {47, 1};
    int[] spins = {1, -1};
    for (int i = 0; i < phases.length; i++) {
      Pseudorange sky = new Pseudorange();
      sky.star(120, phases[i], spins[i], 0, 0);
      sky.station(0, 0);
      sky.listen(0, 0);
      due.is("at the same place", sky.message(0, PLACE), 0);
      sky.pass(1);
      due.is("at the wrap", sky.message(0, PLACE), 0);
      sky.push(0, 1);
      due.is("pushed", sky.message(0, PLACE), 10);
      sky.push(0, -2);
      due.is("pushed to the other side", sky.message(0, PLACE), 10);
      sky.push(0, 1);
      sky.pass(1);
      due.is("behind the wrap", sky.message(0, PLACE), 0);
    }
  }

  static void p18_clockAndPlaceAlsoWhenItDoesNotHold(Due due) {
    Pseudorange sky = Skies.above(1);
    sky.pass(13);
    sky.jump(0, 7, 0);
    sky.push(0, 2);
    messageIs(due, sky, 1, 0, 0, 0, 0, 0, 7, 20);
  }

  /** The told DRIFT is 9; the clock stands still at 99. */
  static void p18_farBehindIt(Due due) {
    for (int spin = -3; spin <= 3; spin += 3) {
      Pseudorange sky = new Pseudorange();
      sky.star(120, 0, spin, 0, 0);
      sky.station(0, 0);
      sky.listen(0, 0);
      sky.pass(1);
      sky.jump(0, 99, 0);
      sky.listen(0, 0);
      Skies.passOften(sky, 480);
      sky.push(0, 1);
      due.is("9 times 23040", sky.message(0, CLOCK), 9 * 23040);
      due.is("pushed", sky.message(0, PLACE), 10);
      due.is("it holds", sky.message(0, HOLDS), 0);
    }
  }

  // ---- promise 21

  static void p21_whatIs0To8(Due due) {
    due.limits("what", 0, 8, ARGUMENT, Pseudorange::new, (sky, v) -> sky.many(v));
    due.limits("what of most", 0, 8, ARGUMENT, Skies::most, (sky, v) -> sky.many(v));
  }

  static void p21_asManyAsCanBe(Due due) {
    Pseudorange sky = Skies.most();
    sky.pass(1);
    for (int receiver = 0; receiver < 3; receiver++) {
      sky.observe(receiver);
    }
    // the SOLUTION of all is (-12, 0), and they are at x 0, 3 and -3
    int[] want = {1, 8, 3, 3, 8, 8, 8, 3, 3};
    for (int what = 0; what <= 8; what++) {
      due.is("many(" + what + ")", sky.many(what), want[what]);
    }
  }

  static void p21_healthyFromAllToNone(Due due) {
    Pseudorange sky = Skies.most();
    for (int star = 7; star >= 0; star--) {
      sky.health(star, false);
      due.is("HEALTHY", sky.many(4), star);
      due.is("STARS", sky.many(1), 8);
    }
  }

  static void p21_messagesThatHoldFor12(Due due) {
    Pseudorange sky = Skies.above(3);
    sky.pass(1);
    sky.listen(0, 2);
    sky.pass(11);
    due.is("behind 12, 12 and 11", sky.many(5), 3);
    sky.pass(1);
    due.is("behind 13, 13 and 12", sky.many(5), 1);
    sky.health(2, false);
    due.is("HEALTHY or not", sky.many(5), 1);
    sky.pass(1);
    due.is("behind 14, 14 and 13", sky.many(5), 0);
    due.is("all ISSUES", sky.many(6), 4);
  }

  static void p21_issuesOfAllStars(Due due) {
    Pseudorange sky = Skies.above(2);
    due.is("ISSUES", sky.many(6), 2);
    sky.listen(0, 1);
    due.is("ISSUES", sky.many(6), 3);
    sky.health(1, false);
    due.is("ISSUES", sky.many(6), 3);
  }

  static void p21_observationsAlsoWithoutSolution(Due due) {
    Pseudorange sky = new Pseudorange();
    sky.receiver(0, 0, 0);
    sky.receiver(0, 0, 0);
    due.is("OBSERVATIONS", sky.many(7), 0);
    sky.observe(1);
    due.is("OBSERVATIONS", sky.many(7), 1);
    sky.observe(0);
    sky.pass(1);
    sky.observe(0);
    due.is("OBSERVATIONS", sky.many(7), 3);
    due.is("MISLED", sky.many(8), 0);
  }

  static void p21_epochGoesOn(Due due) {
    Pseudorange sky = new Pseudorange();
    Skies.passOften(sky, 511);
    due.is("EPOCH", sky.many(0), 511 * 48);
  }
}

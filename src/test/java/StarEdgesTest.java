import java.util.List;
import java.util.concurrent.Callable;

/** The boundary cases of promises 1 to 7: a new object, STARS and STATIONS. */
public final class StarEdgesTest {
  private static final Class<IllegalArgumentException> ARGUMENT = IllegalArgumentException.class;
  private static final Class<IllegalStateException> STATE = IllegalStateException.class;
  private static final Class<IndexOutOfBoundsException> INDEX = IndexOutOfBoundsException.class;

  public static void main(String[] args) {
    Numbered.run(StarEdgesTest.class, 1, 2, 3, 4, 5, 6, 7);
  }

  // ---- promise 1

  static void p01_nothingIsMadeYet(Due due) {
    Pseudorange sky = new Pseudorange();
    for (int what = 0; what <= 8; what++) {
      due.is("many(" + what + ")", sky.many(what), 0);
    }
  }

  static void p01_noNumberIsThereYet(Due due) {
    Pseudorange sky = new Pseudorange();
    List<Callable<Object>> calls = List.of(
        () -> sky.push(0, 0), () -> sky.jump(0, 0, 0), () -> sky.health(0, true),
        () -> sky.listen(0, 0), () -> sky.go(0, 0, 0), () -> sky.hills(0, 0, 0),
        () -> sky.air(0, 0, true), () -> sky.alert(0, 1), () -> sky.spoof(0, 0),
        () -> sky.refer(0, -1), () -> sky.observe(0), () -> sky.ofStar(0, 0),
        () -> sky.message(0, 0), () -> sky.seen(0, 0, 0), () -> sky.ofReceiver(0, 0),
        () -> sky.meanError(0), () -> sky.wouldSee(0, 0), () -> sky.heardIn(0, 0),
        () -> sky.without(0, 0), () -> sky.wouldAlarm(0));
    for (int i = 0; i < calls.size(); i++) {
      due.fails(sky, INDEX, "call " + i + " of a new sky", calls.get(i));
    }
  }

  static void p01_twoObjectsShareNothing(Due due) {
    Pseudorange one = Skies.most();
    Pseudorange other = new Pseudorange();
    one.pass(1);
    one.observe(0);
    due.is("EPOCH of the other", other.many(0), 0);
    due.is("STARS of the other", other.many(1), 0);
    due.is("the first STAR of the other", other.star(60, 1, 0, 0, 0), 0);
    due.is("PHASE of the other", other.ofStar(0, 1), 1);
    due.is("PHASE of the one", one.ofStar(0, 1), 0);
  }

  // ---- promise 2

  static void p02_radiusIs60To200(Due due) {
    due.limits("radius", 60, 200, ARGUMENT, Pseudorange::new, (sky, v) -> sky.star(v, 0, 0, 0, 0));
  }

  static void p02_phaseIs0To47(Due due) {
    due.limits("phase", 0, 47, ARGUMENT, Pseudorange::new, (sky, v) -> sky.star(60, v, 0, 0, 0));
  }

  static void p02_spinIsMinus3To3(Due due) {
    due.limits("spin", -3, 3, ARGUMENT, Pseudorange::new, (sky, v) -> sky.star(60, 0, v, 0, 0));
  }

  static void p02_offsetIsMinus500To500(Due due) {
    due.limits("offset", -500, 500, ARGUMENT, Pseudorange::new, (sky, v) -> sky.star(60, 0, 0, v, 0));
  }

  static void p02_driftIsMinus3To3(Due due) {
    due.limits("drift", -3, 3, ARGUMENT, Pseudorange::new, (sky, v) -> sky.star(60, 0, 0, 0, v));
  }

  static void p02_theEndsStandAsTold(Due due) {
    Pseudorange sky = new Pseudorange();
    sky.star(60, 0, -3, -500, -3);
    sky.star(200, 47, 3, 500, 3);
    int[] least = {60, 0, -3, -500, -3};
    int[] most = {200, 47, 3, 500, 3};
    for (int what = 0; what < 5; what++) {
      due.is("ofStar(0, " + what + ")", sky.ofStar(0, what), least[what]);
      due.is("ofStar(1, " + what + ")", sky.ofStar(1, what), most[what]);
    }
  }

  static void p02_numbersAre0To7(Due due) {
    Pseudorange sky = new Pseudorange();
    for (int i = 0; i < 8; i++) {
      due.is("star", sky.star(60 + i, i, 0, 0, 0), i);
      due.is("STARS", sky.many(1), i + 1);
    }
    for (int i = 0; i < 8; i++) {
      due.is("RADIUS of " + i, sky.ofStar(i, 0), 60 + i);
    }
  }

  static void p02_aNinthIsRefused(Due due) {
    Pseudorange sky = Skies.above(7);
    due.is("the eighth", sky.star(60, 0, 0, 0, 0), 7);
    due.fails(sky, STATE, "the ninth", () -> sky.star(60, 0, 0, 0, 0));
    due.fails(sky, STATE, "the ninth again", () -> sky.star(200, 47, 3, 500, 3));
    due.is("STARS", sky.many(1), 8);
  }

  static void p02_aWrongNinthIsAWrongArgumentFirst(Due due) {
    Pseudorange sky = Skies.above(8);
    due.fails(sky, ARGUMENT, "radius", () -> sky.star(59, 0, 0, 0, 0));
    due.fails(sky, ARGUMENT, "phase", () -> sky.star(60, 48, 0, 0, 0));
    due.fails(sky, ARGUMENT, "spin", () -> sky.star(60, 0, -4, 0, 0));
    due.fails(sky, ARGUMENT, "offset", () -> sky.star(60, 0, 0, 501, 0));
    due.fails(sky, ARGUMENT, "drift", () -> sky.star(60, 0, 0, 0, 4));
  }

  static void p02_aRefusedStarTakesNoNumber(Due due) {
    Pseudorange sky = new Pseudorange();
    due.fails(sky, ARGUMENT, "radius 59", () -> sky.star(59, 0, 0, 0, 0));
    due.is("the first", sky.star(60, 0, 0, 0, 0), 0);
    due.fails(sky, ARGUMENT, "drift 4", () -> sky.star(60, 0, 0, 0, 4));
    due.is("the second", sky.star(60, 0, 0, 0, 0), 1);
  }

  static void p02_healthyAndUnheardAtFirst(Due due) {
    Pseudorange sky = new Pseudorange();
    sky.pass(7);
    sky.star(60, 5, 3, 9, 3);
    int[] star = {60, 5, 3, 9, 3, 1};
    int[] message = {0, -1, -1, 0, 0, 0, 0, 0};
    for (int what = 0; what < star.length; what++) {
      due.is("ofStar(0, " + what + ")", sky.ofStar(0, what), star[what]);
    }
    for (int what = 0; what < message.length; what++) {
      due.is("message(0, " + what + ")", sky.message(0, what), message[what]);
    }
  }

  // ---- promise 3

  static void p03_byIsMinus5To5(Due due) {
    due.limits("by", -5, 5, ARGUMENT, () -> Skies.above(1), (sky, v) -> sky.push(0, v));
  }

  static void p03_numbersAre0To7(Due due) {
    due.limits("STAR", 0, 7, INDEX, Skies::most, (sky, v) -> sky.push(v, 1));
    due.limits("STAR of two", 0, 1, INDEX, () -> Skies.above(2), (sky, v) -> sky.push(v, 1));
  }

  static void p03_noSuchStarIsNamedFirst(Due due) {
    Pseudorange sky = Skies.above(2);
    due.fails(sky, INDEX, "push(2, 6)", () -> sky.push(2, 6));
    due.fails(sky, INDEX, "push(-1, -6)", () -> sky.push(-1, -6));
  }

  private static int pushed(int phase, int by) {
    Pseudorange sky = new Pseudorange();
    sky.star(60, phase, 0, 0, 0);
    int answer = sky.push(0, by);
    return sky.ofStar(0, 1) == answer ? answer : -99;
  }

  static void p03_phaseWrapsUp(Due due) {
    due.is("42 and 5", pushed(42, 5), 47);
    due.is("43 and 5", pushed(43, 5), 0);
    due.is("44 and 5", pushed(44, 5), 1);
    due.is("46 and 1", pushed(46, 1), 47);
    due.is("47 and 1", pushed(47, 1), 0);
    due.is("47 and 5", pushed(47, 5), 4);
  }

  static void p03_phaseWrapsDown(Due due) {
    due.is("6 less 5", pushed(6, -5), 1);
    due.is("5 less 5", pushed(5, -5), 0);
    due.is("4 less 5", pushed(4, -5), 47);
    due.is("1 less 1", pushed(1, -1), 0);
    due.is("0 less 1", pushed(0, -1), 47);
    due.is("0 less 5", pushed(0, -5), 43);
  }

  static void p03_by0StaysWhereItIs(Due due) {
    due.is("0", pushed(0, 0), 0);
    due.is("47", pushed(47, 0), 47);
  }

  static void p03_nothingElseMoves(Due due) {
    Pseudorange sky = Skies.above(2);
    sky.push(0, 5);
    due.is("PHASE of the other", sky.ofStar(1, 1), 0);
    due.is("SPIN", sky.ofStar(0, 2), 0);
    due.is("OFFSET", sky.ofStar(0, 3), 0);
    due.is("PHASE of the MESSAGE", sky.message(0, 2), 0);
    due.is("EPOCH", sky.many(0), 0);
  }

  // ---- promise 4

  static void p04_offsetIsMinus99To99(Due due) {
    due.limits("offset", -99, 99, ARGUMENT, () -> Skies.above(1), (sky, v) -> sky.jump(0, v, 0));
  }

  static void p04_driftIsMinus3To3(Due due) {
    due.limits("drift", -3, 3, ARGUMENT, () -> Skies.above(1), (sky, v) -> sky.jump(0, 0, v));
  }

  static void p04_numbersAre0To7(Due due) {
    due.limits("STAR", 0, 7, INDEX, Skies::most, (sky, v) -> sky.jump(v, 1, 1));
    due.limits("STAR of two", 0, 1, INDEX, () -> Skies.above(2), (sky, v) -> sky.jump(v, 1, 1));
  }

  static void p04_noSuchStarIsNamedFirst(Due due) {
    Pseudorange sky = Skies.above(2);
    due.fails(sky, INDEX, "jump(2, 100, 0)", () -> sky.jump(2, 100, 0));
    due.fails(sky, INDEX, "jump(-1, 0, 4)", () -> sky.jump(-1, 0, 4));
  }

  /** The clock of a STAR at 995 (or -995). */
  private static Pseudorange near999(int sign) {
    Pseudorange sky = new Pseudorange();
    sky.star(60, 0, 0, sign * 500, 0);
    for (int i = 0; i < 5; i++) {
      sky.jump(0, sign * 99, 0);
    }
    return sky;
  }

  static void p04_offsetIsHeldTo999(Due due) {
    due.is("from 995 to 998", near999(1).jump(0, 3, 0), 998);
    due.is("from 995 to 999", near999(1).jump(0, 4, 0), 999);
    due.is("from 995 to 1000", near999(1).jump(0, 5, 0), 999);
    due.is("from 995 to 1094", near999(1).jump(0, 99, 0), 999);
  }

  static void p04_offsetIsHeldToMinus999(Due due) {
    due.is("from -995 to -998", near999(-1).jump(0, -3, 0), -998);
    due.is("from -995 to -999", near999(-1).jump(0, -4, 0), -999);
    due.is("from -995 to -1000", near999(-1).jump(0, -5, 0), -999);
    due.is("from -995 to -1094", near999(-1).jump(0, -99, 0), -999);
  }

  static void p04_whatIsBeyond999IsLost(Due due) {
    Pseudorange above = near999(1);
    above.jump(0, 99, 0);
    due.is("OFFSET", above.ofStar(0, 3), 999);
    due.is("back by 1", above.jump(0, -1, 0), 998);
    Pseudorange below = near999(-1);
    below.jump(0, -99, 0);
    due.is("OFFSET", below.ofStar(0, 3), -999);
    due.is("back by 1", below.jump(0, 1, 0), -998);
  }

  static void p04_driftIsToldAlsoWhenTheOffsetIsHeld(Due due) {
    Pseudorange sky = near999(1);
    sky.jump(0, 99, -3);
    due.is("DRIFT", sky.ofStar(0, 4), -3);
    sky.pass(1);
    due.is("OFFSET", sky.ofStar(0, 3), 996);
  }

  static void p04_by0TellsTheDriftAlone(Due due) {
    Pseudorange sky = Skies.above(1);
    due.is("jump(0, 0, 3)", sky.jump(0, 0, 3), 0);
    due.is("DRIFT", sky.ofStar(0, 4), 3);
    due.is("jump(0, 0, 0)", sky.jump(0, 0, 0), 0);
    due.is("DRIFT", sky.ofStar(0, 4), 0);
  }

  // ---- promise 5

  static void p05_numbersAre0To7(Due due) {
    due.limits("STAR", 0, 7, INDEX, Skies::most, (sky, v) -> sky.health(v, false));
    due.limits("STAR of two", 0, 1, INDEX, () -> Skies.above(2), (sky, v) -> sky.health(v, false));
  }

  static void p05_healthyAtFirst(Due due) {
    due.is("health(0, true)", Skies.above(1).health(0, true), true);
    due.is("health(0, false)", Skies.above(1).health(0, false), true);
  }

  static void p05_toldTwiceTheSame(Due due) {
    Pseudorange sky = Skies.above(2);
    sky.health(0, false);
    due.is("not", sky.health(0, false), false);
    due.is("HEALTHY STARS", sky.many(4), 1);
    due.is("still not", sky.health(0, true), false);
    due.is("it is", sky.health(0, true), true);
    due.is("HEALTHY STARS", sky.many(4), 2);
  }

  // ---- promise 6

  static void p06_xIsMinus50To50(Due due) {
    due.limits("x", -50, 50, ARGUMENT, Pseudorange::new, (sky, v) -> sky.station(v, 0));
  }

  static void p06_delayIs0To9(Due due) {
    due.limits("delay", 0, 9, ARGUMENT, Pseudorange::new, (sky, v) -> sky.station(0, v));
  }

  static void p06_numbersAre0To2(Due due) {
    Pseudorange sky = new Pseudorange();
    for (int i = 0; i < 3; i++) {
      due.is("station", sky.station(i, i), i);
      due.is("STATIONS", sky.many(2), i + 1);
    }
  }

  static void p06_aFourthIsRefused(Due due) {
    Pseudorange sky = Skies.most();
    due.fails(sky, STATE, "the fourth", () -> sky.station(0, 0));
    due.fails(sky, STATE, "the fourth again", () -> sky.station(50, 9));
    due.is("STATIONS", sky.many(2), 3);
  }

  static void p06_aWrongFourthIsAWrongArgumentFirst(Due due) {
    Pseudorange sky = Skies.most();
    due.fails(sky, ARGUMENT, "x", () -> sky.station(51, 0));
    due.fails(sky, ARGUMENT, "delay", () -> sky.station(0, -1));
  }

  static void p06_aRefusedStationTakesNoNumber(Due due) {
    Pseudorange sky = new Pseudorange();
    due.fails(sky, ARGUMENT, "x -51", () -> sky.station(-51, 0));
    due.is("the first", sky.station(0, 0), 0);
    due.fails(sky, ARGUMENT, "delay 10", () -> sky.station(0, 10));
    due.is("the second", sky.station(0, 0), 1);
  }

  /** From -50 and 50 a STAR at (50, 10) is 100 and 0 away in x. */
  static void p06_theEndsOfXStandAsTold(Due due) {
    due.is("from 50", Skies.heardFrom(50, 60, 10).listen(0, 0), 1);
    due.is("from -50 to the left", Skies.heardFrom(-50, 60, 38).listen(0, 0), 1);
    Pseudorange far = Skies.heardFrom(-50, 60, 10);
    due.fails(far, STATE, "from -50 to the right", () -> far.listen(0, 0));
  }

  static void p06_theEndsOfDelayStandAsTold(Due due) {
    Pseudorange sky = new Pseudorange();
    sky.star(60, 0, 0, 7, 0);
    sky.station(0, 0);
    sky.station(0, 9);
    sky.listen(0, 0);
    due.is("with DELAY 0", sky.message(0, 3), 7);
    sky.listen(1, 0);
    due.is("with DELAY 9", sky.message(0, 3), 16);
  }

  // ---- promise 7

  static void p07_stationsAre0To2(Due due) {
    due.limits("STATION", 0, 2, INDEX, Skies::most, (sky, v) -> sky.listen(v, 0));
    due.limits("STATION of one", 0, 0, INDEX, () -> Skies.above(2), (sky, v) -> sky.listen(v, 0));
  }

  static void p07_starsAre0To7(Due due) {
    due.limits("STAR", 0, 7, INDEX, Skies::most, (sky, v) -> sky.listen(0, v));
    due.limits("STAR of two", 0, 1, INDEX, () -> Skies.above(2), (sky, v) -> sky.listen(0, v));
  }

  static void p07_noSuchNumberIsNamedFirst(Due due) {
    Pseudorange sky = Skies.heardFrom(0, 60, 24);
    due.fails(sky, INDEX, "no such STATION", () -> sky.listen(1, 0));
    due.fails(sky, INDEX, "no STATION -1", () -> sky.listen(-1, 0));
    due.fails(sky, INDEX, "no such STAR", () -> sky.listen(0, 1));
    due.fails(sky, INDEX, "neither", () -> sky.listen(1, 1));
    due.fails(sky, STATE, "both, but it is not to be heard", () -> sky.listen(0, 0));
  }

  static void p07_onlyAHealthyStarIsHeard(Due due) {
    Pseudorange sky = Skies.heardFrom(0, 60, 0);
    sky.health(0, false);
    due.fails(sky, STATE, "not HEALTHY", () -> sky.listen(0, 0));
    sky.health(0, true);
    due.is("HEALTHY again", sky.listen(0, 0), 1);
  }

  /** (50, 10), (-50, 10); RADIUS 66 one PHASE on: (60, 5), that is just near enough to 50. */
  static void p07_itsYIs10OrMore(Due due) {
    due.is("y 10", Skies.heardFrom(50, 60, 10).listen(0, 0), 1);
    due.is("y 10 on the left", Skies.heardFrom(-50, 60, 38).listen(0, 0), 1);
    Pseudorange low = Skies.heardFrom(50, 66, 11);
    due.is("x", low.ofStar(0, 6), 60);
    due.is("y", low.ofStar(0, 7), 5);
    due.fails(low, STATE, "y 5", () -> low.listen(0, 0));
    Pseudorange left = Skies.heardFrom(-50, 66, 37);
    due.is("y", left.ofStar(0, 7), 5);
    due.fails(left, STATE, "y 5 on the left", () -> left.listen(0, 0));
    Pseudorange under = Skies.heardFrom(0, 60, 24);
    due.fails(under, STATE, "y -60", () -> under.listen(0, 0));
  }

  /** (90, 30) and (-90, 30): 60 is not farther than 2 times 30. */
  static void p07_noFartherInXThanTwiceItsY(Due due) {
    due.is("from 30", Skies.heardFrom(30, 120, 9).listen(0, 0), 1);
    Pseudorange far = Skies.heardFrom(29, 120, 9);
    due.fails(far, STATE, "from 29", () -> far.listen(0, 0));
    due.is("from -30", Skies.heardFrom(-30, 120, 39).listen(0, 0), 1);
    Pseudorange left = Skies.heardFrom(-29, 120, 39);
    due.fails(left, STATE, "from -29", () -> left.listen(0, 0));
  }

  /** At (50, 10) both limits meet. */
  static void p07_lowAndFarAtOnce(Due due) {
    due.is("from 30", Skies.heardFrom(30, 60, 10).listen(0, 0), 1);
    Pseudorange far = Skies.heardFrom(29, 60, 10);
    due.fails(far, STATE, "from 29", () -> far.listen(0, 0));
  }

  /** RADIUS 60: (55, 5) is not heard from 50, (50, 10) is. */
  static void p07_asItStandsInThisEpoch(Due due) {
    Pseudorange rising = new Pseudorange();
    rising.star(60, 11, -1, 0, 0);
    rising.station(50, 0);
    due.fails(rising, STATE, "one EPOCH too early", () -> rising.listen(0, 0));
    rising.pass(1);
    due.is("now", rising.listen(0, 0), 1);
    Pseudorange falling = new Pseudorange();
    falling.star(60, 10, 1, 0, 0);
    falling.station(50, 0);
    due.is("just yet", falling.listen(0, 0), 1);
    falling.pass(1);
    due.fails(falling, STATE, "one EPOCH too late", () -> falling.listen(0, 0));
  }

  static void p07_issueIs1More(Due due) {
    Pseudorange sky = Skies.heardFrom(0, 60, 0);
    for (int issue = 1; issue <= 5; issue++) {
      due.is("listen", sky.listen(0, 0), issue);
    }
    sky.pass(48);
    due.is("also behind one that does not hold", sky.listen(0, 0), 6);
  }

  static void p07_theFirstDriftToldIs0(Due due) {
    Pseudorange sky = new Pseudorange();
    sky.star(60, 0, 0, 400, 3);
    sky.station(0, 9);
    sky.pass(5);
    sky.listen(0, 0);
    due.is("told OFFSET", sky.message(0, 3), 424);
    due.is("told DRIFT", sky.message(0, 4), 0);
    sky.jump(0, 50, 3);
    sky.listen(0, 0);
    due.is("in the same EPOCH", sky.message(0, 4), 0);
  }

  /** The told DRIFT, when the clock went on by so much in so many EPOCHS. */
  private static int toldDrift(int by, int epochs) {
    Pseudorange sky = Skies.heardFrom(0, 60, 0);
    sky.listen(0, 0);
    sky.pass(epochs);
    sky.jump(0, by, 0);
    sky.listen(0, 0);
    return sky.message(0, 4);
  }

  static void p07_toldDriftIsHeldTo9(Due due) {
    due.is("8 in 1", toldDrift(8, 1), 8);
    due.is("9 in 1", toldDrift(9, 1), 9);
    due.is("10 in 1", toldDrift(10, 1), 9);
    due.is("99 in 1", toldDrift(99, 1), 9);
    due.is("19 in 2", toldDrift(19, 2), 9);
    due.is("20 in 2", toldDrift(20, 2), 9);
  }

  static void p07_toldDriftIsHeldToMinus9(Due due) {
    due.is("-8 in 1", toldDrift(-8, 1), -8);
    due.is("-9 in 1", toldDrift(-9, 1), -9);
    due.is("-10 in 1", toldDrift(-10, 1), -9);
    due.is("-99 in 1", toldDrift(-99, 1), -9);
    due.is("-19 in 2", toldDrift(-19, 2), -9);
    due.is("-20 in 2", toldDrift(-20, 2), -9);
  }

  static void p07_toldDriftIsRoundedTowards0(Due due) {
    due.is("1 in 2", toldDrift(1, 2), 0);
    due.is("2 in 2", toldDrift(2, 2), 1);
    due.is("3 in 2", toldDrift(3, 2), 1);
    due.is("-1 in 2", toldDrift(-1, 2), 0);
    due.is("-2 in 2", toldDrift(-2, 2), -1);
    due.is("-3 in 2", toldDrift(-3, 2), -1);
    due.is("47 in 48", toldDrift(47, 48), 0);
    due.is("48 in 48", toldDrift(48, 48), 1);
    due.is("-47 in 48", toldDrift(-47, 48), 0);
    due.is("-48 in 48", toldDrift(-48, 48), -1);
  }

  static void p07_toldDriftStaysIfNoEpochPassed(Due due) {
    Pseudorange sky = Skies.heardFrom(0, 60, 0);
    sky.listen(0, 0);
    sky.pass(1);
    sky.jump(0, 5, 0);
    sky.listen(0, 0);
    due.is("told DRIFT", sky.message(0, 4), 5);
    sky.jump(0, 40, 0);
    sky.listen(0, 0);
    due.is("told DRIFT", sky.message(0, 4), 5);
    due.is("told OFFSET", sky.message(0, 3), 45);
    sky.pass(1);
    sky.jump(0, 2, 0);
    sky.listen(0, 0);
    due.is("from the MESSAGE ahead", sky.message(0, 4), 2);
  }

  /** The DELAY of the air is told too: another STATION tells another DRIFT. */
  static void p07_toldDriftIsOfWhatIsTold(Due due) {
    Pseudorange sky = new Pseudorange();
    sky.star(60, 0, 0, 0, 0);
    sky.station(0, 0);
    sky.station(0, 9);
    sky.listen(0, 0);
    sky.pass(1);
    sky.listen(1, 0);
    due.is("9 more", sky.message(0, 4), 9);
    sky.pass(1);
    sky.listen(0, 0);
    due.is("9 less", sky.message(0, 4), -9);
  }

  static void p07_toldOffsetMayBeBeyond999(Due due) {
    for (int sign = -1; sign <= 1; sign += 2) {
      Pseudorange sky = near999(sign);
      sky.jump(0, sign * 99, 0);
      sky.station(0, 9);
      sky.listen(0, 0);
      due.is("told OFFSET", sky.message(0, 3), sign * 999 + 9);
    }
  }

  static void p07_theMessageIsOfThisEpoch(Due due) {
    Pseudorange sky = new Pseudorange();
    sky.star(60, 47, 1, 0, 0);
    sky.station(0, 0);
    sky.listen(0, 0);
    due.is("EPOCH", sky.message(0, 1), 0);
    due.is("PHASE", sky.message(0, 2), 47);
    sky.pass(1);
    due.is("EPOCH stays", sky.message(0, 1), 0);
    due.is("PHASE stays", sky.message(0, 2), 47);
    sky.listen(0, 0);
    due.is("EPOCH", sky.message(0, 1), 1);
    due.is("PHASE", sky.message(0, 2), 0);
  }

  static void p07_aRefusedListenLeavesTheMessage(Due due) {
    Pseudorange sky = Skies.heardFrom(0, 60, 0);
    sky.listen(0, 0);
    sky.pass(1);
    sky.jump(0, 5, 0);
    sky.health(0, false);
    due.fails(sky, STATE, "not HEALTHY", () -> sky.listen(0, 0));
    int[] want = {1, 0, 0, 0, 0, 1, 5, 0};
    for (int what = 0; what <= 7; what++) {
      due.is("message(0, " + what + ")", sky.message(0, what), want[what]);
    }
  }
}

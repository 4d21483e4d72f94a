/** The boundary cases of promises 16, 20 and 22: what is solved, its ALARM and its errors. */
public final class SolveEdgesTest {
  private static final Class<IllegalArgumentException> ARGUMENT = IllegalArgumentException.class;
  private static final Class<IllegalStateException> STATE = IllegalStateException.class;
  private static final Class<IndexOutOfBoundsException> INDEX = IndexOutOfBoundsException.class;
  private static final int LATEST = 3;
  private static final int USED = 4;
  private static final int X = 5;
  private static final int Y = 6;
  private static final int TIME = 7;
  private static final int COST = 8;
  private static final int LEVEL = 9;
  private static final int ALARM = 10;
  private static final int MISLED = 11;
  private static final int ALARMED = 12;
  private static final int ERROR = 13;

  public static void main(String[] args) {
    Numbered.run(SolveEdgesTest.class, 16, 20, 22);
  }

  private static void receiverIs(Due due, Pseudorange sky, int receiver, int... want) {
    for (int what = 0; what < want.length; what++) {
      due.is("ofReceiver(" + receiver + ", " + what + ")", sky.ofReceiver(receiver, what),
          want[what]);
    }
  }

  private static void solutionIs(Due due, Pseudorange sky, int x, int y, int time, int cost) {
    due.is("x", sky.ofReceiver(0, X), x);
    due.is("y", sky.ofReceiver(0, Y), y);
    due.is("TIME", sky.ofReceiver(0, TIME), time);
    due.is("COST", sky.ofReceiver(0, COST), cost);
  }

  /** STARS above, all FIXED. */
  private static Pseudorange fixedAbove(int stars) {
    Pseudorange sky = Skies.above(stars);
    Skies.observeThrice(sky, 0);
    return sky;
  }

  /** A cross of which only these STARS are heard, and are FIXED; there is no limit of ALERT. */
  private static Pseudorange fixedCross(int x, int y, int... heard) {
    Pseudorange sky = Skies.cross(x, y, 0);
    sky.alert(0, 24);
    Skies.listenTo(sky, heard);
    Skies.observeThrice(sky, 0);
    return sky;
  }

  // ---- promise 16

  static void p16_numbersAre0To2(Due due) {
    due.limits("RECEIVER", 0, 2, INDEX, Skies::most, (sky, v) -> sky.observe(v));
    due.limits("RECEIVER of one", 0, 0, INDEX, () -> Skies.above(1), (sky, v) -> sky.observe(v));
  }

  static void p16_onceInAnEpoch(Due due) {
    Pseudorange sky = Skies.above(4);
    due.is("in EPOCH 0", sky.observe(0), 0);
    due.fails(sky, STATE, "again", () -> sky.observe(0));
    due.is("OBSERVATIONS", sky.many(7), 1);
    sky.pass(1);
    sky.observe(0);
    due.fails(sky, STATE, "again in EPOCH 1", () -> sky.observe(0));
    due.is("OBSERVATIONS", sky.many(7), 2);
    sky.pass(48);
    sky.observe(0);
    due.fails(sky, STATE, "again in EPOCH 49", () -> sky.observe(0));
    due.is("OBSERVATIONS", sky.many(7), 3);
  }

  static void p16_againRefusedWhateverIsToldBetween(Due due) {
    Pseudorange sky = Skies.above(4);
    sky.observe(0);
    sky.go(0, 3, 3);
    sky.jump(0, 9, 1);
    sky.listen(0, 0);
    due.fails(sky, STATE, "again", () -> sky.observe(0));
  }

  static void p16_theOthersMayObserveInTheSameEpoch(Due due) {
    Pseudorange sky = Skies.most();
    sky.observe(0);
    sky.observe(1);
    sky.observe(2);
    due.is("OBSERVATIONS", sky.many(7), 3);
    due.fails(sky, STATE, "again", () -> sky.observe(1));
  }

  static void p16_withoutStars(Due due) {
    Pseudorange sky = new Pseudorange();
    sky.receiver(5, 7, 0);
    due.is("observe", sky.observe(0), 1);
    receiverIs(due, sky, 0, 5, 7, 0, 0, 0, 0, 0, 0, 0, 99, 1, 0, 0, 0);
    due.fails(sky, STATE, "again", () -> sky.observe(0));
  }

  static void p16_alarm1IfLessThan4AreUsed(Due due) {
    int[] alarm = {1, 1, 1, 1, 0, 0, 0, 0, 0};
    for (int stars = 0; stars <= 8; stars++) {
      due.is("of " + stars, Skies.above(stars).observe(0), alarm[stars]);
    }
  }

  static void p16_alarm1CountsOnlyMessagesThatHold(Due due) {
    Pseudorange holds = Skies.above(4);
    holds.pass(12);
    due.is("for 12", holds.observe(0), 0);
    Pseudorange old = Skies.above(4);
    old.pass(1);
    for (int star = 0; star < 3; star++) {
      old.listen(0, star);
    }
    old.pass(12);
    due.is("one for 13", old.observe(0), 1);
    due.is("USED", old.ofReceiver(0, USED), 3);
  }

  /** When all are FIXED and their clocks jump by so much, with a mean of 0: 4 times the squares. */
  private static void alarmOfCost(Due due, int stars, int cost, int alarm, int... jumps) {
    Pseudorange sky = fixedAbove(stars);
    Skies.jump(sky, jumps);
    due.is("ALARM of " + cost, Skies.passAndObserve(sky, 0), alarm);
    due.is("COST", sky.ofReceiver(0, COST), cost);
  }

  static void p16_alarm2IfTheCostIsAbove40TimesThoseUsed(Due due) {
    alarmOfCost(due, 4, 160, 0, 4, -4, 2, -2);
    alarmOfCost(due, 4, 164, 2, 6, -2, -1);
    alarmOfCost(due, 5, 200, 0, 5, -5);
    alarmOfCost(due, 5, 204, 2, 5, -5, 1);
    alarmOfCost(due, 8, 320, 0, 6, -6, 2, -2);
    alarmOfCost(due, 8, 324, 2, 6, -6, 2, -2, 1);
  }

  /** Only those that are USED count: a fifth STAR, seen but unheard, does not raise the limit. */
  static void p16_alarm2CountsThoseUsedNotThoseSeen(Due due) {
    Pseudorange sky = Skies.above(4);
    sky.star(120, 0, 0, 0, 0);
    Skies.observeThrice(sky, 0);
    Skies.jump(sky, 6, -2, -1);
    due.is("164 of 4", Skies.passAndObserve(sky, 0), 2);
    due.is("it sees", sky.ofReceiver(0, 2), 5);
  }

  static void p16_alarm3IfTheLevelIsAboveAlert(Due due) {
    int[] alarm = {3, 3, 0, 0};
    for (int alert = 1; alert <= 4; alert++) {
      Pseudorange sky = Skies.above(4);
      sky.alert(0, alert);
      due.is("LEVEL 3 and ALERT " + alert, sky.observe(0), alarm[alert - 1]);
      due.is("LEVEL", sky.ofReceiver(0, LEVEL), 3);
    }
  }

  /** Of a cross at (0, 5) the LEVEL is 8. */
  static void p16_alarm3OfAGreaterLevel(Due due) {
    int[] alert = {7, 8, 9};
    int[] alarm = {3, 0, 0};
    for (int i = 0; i < alert.length; i++) {
      Pseudorange sky = fixedCross(0, 5, 0, 1, 2, 3, 4);
      sky.alert(0, alert[i]);
      due.is("LEVEL 8 and ALERT " + alert[i], Skies.passAndObserve(sky, 0), alarm[i]);
      due.is("LEVEL", sky.ofReceiver(0, LEVEL), 8);
    }
  }

  private static int alarmOfLeap(int x, int y) {
    Pseudorange sky = fixedCross(0, 0, 0, 1, 2, 3, 4);
    sky.go(0, x, y);
    int alarm = Skies.passAndObserve(sky, 0);
    boolean isThere = sky.ofReceiver(0, X) == x && sky.ofReceiver(0, Y) == y;
    return isThere ? alarm : -99;
  }

  static void p16_alarm4IfTheSolutionWentFartherThan4(Due due) {
    due.is("4 to the right", alarmOfLeap(4, 0), 0);
    due.is("5 to the right", alarmOfLeap(5, 0), 4);
    due.is("4 to the left", alarmOfLeap(-4, 0), 0);
    due.is("5 to the left", alarmOfLeap(-5, 0), 4);
    due.is("4 up", alarmOfLeap(0, 4), 0);
    due.is("5 up", alarmOfLeap(0, 5), 4);
    due.is("4 and 4", alarmOfLeap(4, 4), 0);
    due.is("5 and 4", alarmOfLeap(5, 4), 4);
    due.is("-4 and 5", alarmOfLeap(-4, 5), 4);
  }

  static void p16_alarm4DownAgain(Due due) {
    int[] y = {4, 5};
    int[] alarm = {0, 4};
    for (int i = 0; i < y.length; i++) {
      Pseudorange sky = fixedCross(0, y[i], 0, 1, 2, 3, 4);
      sky.go(0, 0, 0);
      due.is(y[i] + " down", Skies.passAndObserve(sky, 0), alarm[i]);
    }
  }

  /** Behind two EPOCHS nothing is FIXED: the clocks are told what makes up for the NOISE. */
  static void p16_alarm4OnlyBehindTheEpochAhead(Due due) {
    Pseudorange sky = fixedCross(0, 0, 0, 1, 2, 3, 4);
    sky.go(0, 0, 5);
    sky.pass(2);
    Skies.quiet(sky, 0, 0, 1, 2, 3, 4);
    due.is("two EPOCHS behind", sky.observe(0), 0);
    solutionIs(due, sky, 0, 5, 0, 0);
  }

  static void p16_alarm4BehindAnObservationWith3Used(Due due) {
    int[] y = {4, 5};
    int[] alarm = {0, 4};
    for (int i = 0; i < y.length; i++) {
      Pseudorange sky = fixedCross(0, 0, 0, 1, 2);
      solutionIs(due, sky, 0, 0, 0, 0);
      due.is("USED", sky.ofReceiver(0, USED), 3);
      Skies.listenTo(sky, 3, 4);
      sky.go(0, 0, y[i]);
      due.is("by " + y[i], Skies.passAndObserve(sky, 0), alarm[i]);
      solutionIs(due, sky, 0, y[i], 0, 0);
    }
  }

  static void p16_noAlarm4BehindAnObservationWith2Used(Due due) {
    Pseudorange sky = fixedCross(0, 0, 0, 1, 2, 3, 4);
    int[] hidden = {0, 3, 4};
    for (int star : hidden) {
      sky.health(star, false);
    }
    due.is("2 are USED", Skies.passAndObserve(sky, 0), 1);
    solutionIs(due, sky, 0, 0, 0, 0);
    for (int star : hidden) {
      sky.health(star, true);
    }
    sky.go(0, 0, 5);
    sky.pass(1);
    Skies.quiet(sky, 0, hidden);
    due.is("from an older SOLUTION", sky.observe(0), 0);
    solutionIs(due, sky, 0, 5, 0, 0);
  }

  static void p16_noAlarm4InTheFirstObservation(Due due) {
    Pseudorange sky = Skies.heardCross(12, 0, 0);
    sky.alert(0, 24);
    Skies.quiet(sky, 0, 0, 1, 2, 3, 4);
    due.is("in EPOCH 0", sky.observe(0), 0);
    solutionIs(due, sky, 12, 0, 0, 0);
    Pseudorange later = Skies.heardCross(12, 0, 0);
    later.alert(0, 24);
    later.pass(1);
    Skies.quiet(later, 0, 0, 1, 2, 3, 4);
    due.is("in EPOCH 1", later.observe(0), 0);
    solutionIs(due, later, 12, 0, 0, 0);
  }

  static void p16_alarm1IsAheadOfAll(Due due) {
    Pseudorange sky = fixedAbove(3);
    sky.alert(0, 1);
    sky.jump(0, 99, 0);
    due.is("COST and LEVEL are too great", Skies.passAndObserve(sky, 0), 1);
    due.is("COST", sky.ofReceiver(0, COST) > 120, true);
  }

  static void p16_alarm2IsAheadOf3(Due due) {
    Pseudorange sky = fixedAbove(4);
    sky.alert(0, 2);
    due.is("the LEVEL alone", Skies.passAndObserve(sky, 0), 3);
    Skies.jump(sky, 6, -2, -1);
    due.is("the COST too", Skies.passAndObserve(sky, 0), 2);
  }

  static void p16_alarm2IsAheadOf4(Due due) {
    Pseudorange sky = fixedCross(-12, 0, 0, 1, 2, 3, 4);
    sky.jump(0, 40, 0);
    sky.go(0, 12, 0);
    due.is("the COST is too great", Skies.passAndObserve(sky, 0), 2);
    due.is("and it went far", sky.ofReceiver(0, X) > -7, true);
  }

  static void p16_alarm3IsAheadOf4(Due due) {
    int[] alert = {7, 8};
    int[] alarm = {3, 4};
    for (int i = 0; i < alert.length; i++) {
      Pseudorange sky = fixedCross(0, 0, 0, 1, 2, 3, 4);
      sky.alert(0, alert[i]);
      sky.go(0, 0, 5);
      due.is("LEVEL 8, ALERT " + alert[i], Skies.passAndObserve(sky, 0), alarm[i]);
    }
  }

  // ---- promise 20: what is asked

  static void p20_numbersAre0To2(Due due) {
    due.limits("RECEIVER", 0, 2, INDEX, Skies::most, (sky, v) -> sky.ofReceiver(v, 0));
    due.limits("RECEIVER of one", 0, 0, INDEX, () -> Skies.above(1),
        (sky, v) -> sky.ofReceiver(v, 0));
  }

  static void p20_whatIs0To13(Due due) {
    due.limits("what", 0, 13, ARGUMENT, Skies::most, (sky, v) -> sky.ofReceiver(0, v));
  }

  static void p20_noSuchReceiverIsNamedFirst(Due due) {
    Pseudorange sky = Skies.above(1);
    due.fails(sky, INDEX, "ofReceiver(1, 14)", () -> sky.ofReceiver(1, 14));
    due.fails(sky, INDEX, "ofReceiver(-1, -1)", () -> sky.ofReceiver(-1, -1));
  }

  static void p20_aheadOfAll(Due due) {
    Pseudorange sky = Skies.above(8);
    sky.pass(3);
    sky.receiver(-5, 7, 9);
    receiverIs(due, sky, 1, -5, 7, 8, -1, 0, 0, 0, 0, 0, 99, 0, 0, -1, 0);
  }

  static void p20_itsStarsAreThoseOfNow(Due due) {
    Pseudorange sky = Skies.above(8);
    sky.observe(0);
    due.is("it sees all", sky.ofReceiver(0, 2), 8);
    sky.health(0, false);
    due.is("it sees", sky.ofReceiver(0, 2), 7);
    due.is("USED then", sky.ofReceiver(0, USED), 8);
  }

  /** RADIUS 60: (50, 10) and then (55, 5), behind HILLS of 10. */
  static void p20_itsStarsAsTheyStandInThisEpoch(Due due) {
    Pseudorange sky = new Pseudorange();
    sky.star(60, 10, 1, 0, 0);
    sky.receiver(0, 0, 0);
    sky.hills(0, 10, 10);
    due.is("now", sky.ofReceiver(0, 2), 1);
    sky.pass(1);
    due.is("one EPOCH on", sky.ofReceiver(0, 2), 0);
    Pseudorange rising = new Pseudorange();
    rising.star(60, 11, -1, 0, 0);
    rising.receiver(0, 0, 0);
    rising.hills(0, 10, 10);
    due.is("now", rising.ofReceiver(0, 2), 0);
    rising.pass(1);
    due.is("one EPOCH on", rising.ofReceiver(0, 2), 1);
  }

  static void p20_latestInEpoch0(Due due) {
    Pseudorange sky = Skies.above(1);
    due.is("EPOCH", sky.ofReceiver(0, LATEST), -1);
    sky.observe(0);
    due.is("EPOCH", sky.ofReceiver(0, LATEST), 0);
    sky.pass(48);
    due.is("EPOCH stays", sky.ofReceiver(0, LATEST), 0);
    sky.observe(0);
    due.is("EPOCH", sky.ofReceiver(0, LATEST), 48);
  }

  static void p20_noSolutionWithLessThan3(Due due) {
    for (int stars = 1; stars <= 2; stars++) {
      Pseudorange sky = Skies.above(stars);
      sky.go(0, 5, 7);
      sky.observe(0);
      receiverIs(due, sky, 0, 5, 7, stars, 0, stars, 0, 0, 0, 0, 99, 1, 0, 0, 0);
    }
  }

  static void p20_aSolutionWith3(Due due) {
    Pseudorange sky = Skies.above(3);
    sky.go(0, 0, 7);
    Skies.quiet(sky, 0, 0, 1, 2);
    sky.observe(0);
    receiverIs(due, sky, 0, 0, 7, 3, 0, 3, -12, 0, -7, 0, 99, 1, 0, 0, 12);
  }

  static void p20_theLastSolutionStaysWithLessThan3(Due due) {
    Pseudorange sky = fixedAbove(4);
    sky.jump(0, -3, 0);
    Skies.passAndObserve(sky, 0);
    // OVER -3, 0, 0, 0: TIME is -1, rounded down, and the squares are 4, 1, 1, 1
    receiverIs(due, sky, 0, 0, 0, 4, 3, 4, -12, 0, -1, 28, 3, 0, 4, -1, 12);
    sky.health(2, false);
    sky.health(3, false);
    sky.jump(0, 50, 0);
    sky.go(0, 0, 12);
    Skies.passAndObserve(sky, 0);
    receiverIs(due, sky, 0, 0, 12, 2, 4, 2, -12, 0, -1, 28, 99, 1, 4, 4, 12);
    sky.health(0, false);
    sky.health(1, false);
    sky.go(0, -12, 1);
    Skies.passAndObserve(sky, 0);
    receiverIs(due, sky, 0, -12, 1, 0, 5, 0, -12, 0, -1, 28, 99, 1, 4, 5, 1);
  }

  // ---- promise 20: the SOLUTION

  static void p20_solutionInTheCorners(Due due) {
    int[][] corners = {{-12, 0}, {12, 0}, {-12, 12}, {12, 12}, {0, 0}, {0, 12}};
    for (int[] corner : corners) {
      solutionIs(due, fixedCross(corner[0], corner[1], 0, 1, 2, 3, 4), corner[0], corner[1], 0, 0);
    }
  }

  /** What is measured would be exact one step outside; inside the COST is as worked out. */
  static void p20_noSolutionOutside(Due due) {
    Pseudorange right = fixedCross(12, 0, 0, 1, 2);
    Skies.jump(right, 0, -1, 1);
    Skies.passAndObserve(right, 0);
    solutionIs(due, right, 12, 0, 0, 8);
    Pseudorange left = fixedCross(-12, 0, 0, 1, 2);
    Skies.jump(left, 0, 1, -1);
    Skies.passAndObserve(left, 0);
    solutionIs(due, left, -12, 0, 0, 8);
    Pseudorange up = fixedCross(0, 12, 0, 1, 2);
    Skies.jump(up, -1);
    Skies.passAndObserve(up, 0);
    solutionIs(due, up, 0, 12, -1, 8);
    Pseudorange down = fixedCross(0, 0, 0, 1, 2);
    Skies.jump(down, 1);
    Skies.passAndObserve(down, 0);
    solutionIs(due, down, 0, 0, 0, 4);
  }

  static void p20_ofEqualCostTheSmallestX(Due due) {
    Pseudorange sky = fixedAbove(3);
    solutionIs(due, sky, -12, 0, 0, 0);
  }

  /** Without STAR 1 all places with the same sum of x and y cost nothing. */
  static void p20_ofEqualCostTheSmallestYAheadOfX(Due due) {
    solutionIs(due, fixedCross(4, 6, 0, 2, 4), 10, 0, -6, 0);
    solutionIs(due, fixedCross(11, 9, 0, 2, 4), 12, 8, -1, 0);
    solutionIs(due, fixedCross(12, 12, 0, 2, 4), 12, 12, 0, 0);
  }

  /** Without STAR 2 all places with the same y less x cost nothing. */
  static void p20_ofEqualCostTheSmallestYOnTheOtherSide(Due due) {
    solutionIs(due, fixedCross(4, 6, 0, 1, 3), -2, 0, -6, 0);
    solutionIs(due, fixedCross(-11, 9, 0, 1, 3), -12, 8, -1, 0);
  }

  private static void timeOf(Due due, int jump, int time, int cost) {
    Pseudorange sky = fixedAbove(3);
    sky.jump(0, jump, 0);
    Skies.passAndObserve(sky, 0);
    solutionIs(due, sky, -12, 0, time, cost);
  }

  /** Three of the same weight, one of them so much more: a third of that is the TIME. */
  static void p20_timeIsRoundedDownAlsoBelow0(Due due) {
    timeOf(due, -4, -2, 4 * (4 + 4 + 4));
    timeOf(due, -3, -1, 4 * (4 + 1 + 1));
    timeOf(due, -2, -1, 4 * (1 + 1 + 1));
    timeOf(due, -1, -1, 4 * (0 + 1 + 1));
    timeOf(due, 0, 0, 0);
    timeOf(due, 1, 0, 4);
    timeOf(due, 2, 0, 16);
    timeOf(due, 3, 1, 4 * (4 + 1 + 1));
  }

  /** STARS at (60, 60) have the weight 1; from (-12, 0) they are 12 farther than from (0, 0). */
  private static void lightTimeOf(Due due, int jump, int time) {
    Pseudorange sky = new Pseudorange();
    sky.station(0, 0);
    sky.receiver(0, 0, 0);
    for (int star = 0; star < 3; star++) {
      sky.star(120, 6, 0, 0, 0);
      sky.listen(0, star);
      Skies.quiet(sky, 0, star);
    }
    sky.jump(0, jump, 0);
    sky.observe(0);
    due.is("TIME of " + jump + " by 3", sky.ofReceiver(0, TIME), time - 12);
  }

  static void p20_timeIsRoundedDownByOne(Due due) {
    int[] times = {-2, -1, -1, -1, 0, 0, 0, 1};
    for (int jump = -4; jump <= 3; jump++) {
      lightTimeOf(due, jump, times[jump + 4]);
    }
    // with the 12 that it is less: just below 0, and 0
    lightTimeOf(due, 35, 11);
    lightTimeOf(due, 36, 12);
    lightTimeOf(due, 37, 12);
  }

  /** NOISE -2, 1, -1, 2; then 0, -2, 1, -1 with TIME -1; then the WAVES tell, if there is a third. */
  static void p20_theMeasureIsTheCodeUntilItIsFixed(Due due) {
    Pseudorange sky = Skies.above(4);
    sky.observe(0);
    solutionIs(due, sky, -12, 0, 0, 2 * (4 + 1 + 1 + 4));
    Skies.passAndObserve(sky, 0);
    solutionIs(due, sky, -12, 0, -1, 2 * (1 + 1 + 4 + 0));
    Skies.passAndObserve(sky, 0);
    solutionIs(due, sky, -12, 0, 0, 0);
  }

  /** IONO 9 and a NOISE of -1 to 2 (STARS 1, 2, 6 and 7 in EPOCHS 3 to 5) are one wave too much. */
  static void p20_theMeasureOfAWrongCount(Due due) {
    Pseudorange sky = Skies.above(8);
    sky.health(0, false);
    sky.health(3, false);
    sky.health(4, false);
    sky.health(5, false);
    sky.air(0, 9, false);
    sky.pass(3);
    Skies.observeThrice(sky, 0);
    due.is("COUNT", sky.seen(0, 1, 2), 13);
    due.is("FIXED", sky.seen(0, 1, 5), 1);
    solutionIs(due, sky, -12, 0, 10, 0);
  }

  /** Four STARS at the same place, whose squares of NOISE are 4, 1, 1 and 4, with a mean of 0. */
  private static int costOf4At(int phase, int push) {
    Pseudorange sky = new Pseudorange();
    sky.station(0, 0);
    sky.receiver(0, 0, 0);
    for (int star = 0; star < 4; star++) {
      sky.star(120, phase, 0, 0, 0);
      sky.listen(0, star);
      sky.push(star, push);
    }
    sky.observe(0);
    return sky.ofReceiver(0, COST);
  }

  static void p20_weight2OnlyIfYIsGreaterThanX(Due due) {
    due.is("(50, 70)", costOf4At(5, 0), 20);
    due.is("(60, 60)", costOf4At(6, 0), 10);
    due.is("(70, 50)", costOf4At(7, 0), 10);
    due.is("(-50, 70)", costOf4At(43, 0), 20);
    due.is("(-60, 60)", costOf4At(42, 0), 10);
    due.is("(-70, 50)", costOf4At(41, 0), 10);
  }

  static void p20_weightIsByTheMessage(Due due) {
    due.is("(60, 60), but at (50, 70)", costOf4At(6, -1), 10);
    due.is("(50, 70), but at (60, 60)", costOf4At(5, 1), 20);
  }

  /** By the MESSAGE at (50, -70), pushed up to (50, 70); NOISE 1, -1, 2, 0 in EPOCH 4. */
  static void p20_weight1BelowTheGround(Due due) {
    Pseudorange sky = new Pseudorange();
    sky.station(0, 0);
    sky.receiver(0, 0, 0);
    for (int star = 0; star < 4; star++) {
      sky.star(120, 7, 3, 0, 0);
      sky.listen(0, star);
    }
    sky.pass(4);
    for (int star = 0; star < 4; star++) {
      sky.push(star, -5);
      sky.push(star, -5);
      sky.push(star, -4);
    }
    sky.observe(0);
    due.is("USED", sky.ofReceiver(0, USED), 4);
    due.is("COST", sky.ofReceiver(0, COST), 6);
  }

  /** Two are FIXED with 4, one is not with 2: OVER 0, 0 and -2, TIME -4 by 10, rounded down -1. */
  static void p20_weight4IfFixed(Due due) {
    Pseudorange sky = Skies.above(3);
    sky.health(2, false);
    sky.observe(0);
    Skies.passAndObserve(sky, 0);
    sky.health(2, true);
    Skies.passAndObserve(sky, 0);
    solutionIs(due, sky, -12, 0, -1, 4 + 4 + 2);
  }

  /** The clock by its MESSAGE goes on with the told DRIFT, up to 12 EPOCHS behind it. */
  static void p20_pseudorangeByTheMessageOf12Behind(Due due) {
    Pseudorange sky = Skies.above(4);
    sky.pass(1);
    for (int star = 0; star < 4; star++) {
      sky.jump(star, 3, 3);
      sky.listen(0, star);
    }
    sky.pass(12);
    Skies.quiet(sky, 0, 0, 1, 2, 3);
    due.is("told DRIFT", sky.message(3, 4), 3);
    due.is("observe", sky.observe(0), 0);
    solutionIs(due, sky, -12, 0, 0, 0);
  }

  // ---- promise 20: LEVEL, MISLED and the latest ALARM

  static void p20_levelIs99WithLessThan4(Due due) {
    for (int stars = 0; stars <= 3; stars++) {
      Pseudorange sky = Skies.above(stars);
      sky.observe(0);
      due.is("LEVEL of " + stars, sky.ofReceiver(0, LEVEL), 99);
    }
    for (int stars = 4; stars <= 8; stars++) {
      Pseudorange sky = Skies.above(stars);
      sky.observe(0);
      due.is("LEVEL of " + stars, sky.ofReceiver(0, LEVEL), 3);
    }
  }

  /** Without STAR 1 or 2 the SOLUTION goes down as far as it can. */
  static void p20_levelIsOfTheGreatestRange(Due due) {
    int[][] at = {{0, 0, 3}, {0, 5, 8}, {10, 5, 8}, {-10, 5, 8}, {12, 12, 15}, {-12, 12, 15}};
    for (int[] place : at) {
      Pseudorange sky = fixedCross(place[0], place[1], 0, 1, 2, 3, 4);
      due.is("LEVEL", sky.ofReceiver(0, LEVEL), place[2]);
      Pseudorange four = fixedCross(place[0], place[1], 0, 1, 2, 3);
      due.is("LEVEL of 4", four.ofReceiver(0, LEVEL), place[2]);
    }
  }

  /** Only without the STAR to the right the SOLUTION of (-10, 5) goes down all the way. */
  static void p20_levelAlsoByTheFirstAndTheLastStar(Due due) {
    int[][] orders = {{9, 39, 0, 3, 45}, {0, 39, 3, 45, 9}};
    for (int[] phases : orders) {
      Pseudorange sky = new Pseudorange();
      sky.station(50, 0);
      sky.station(-50, 0);
      sky.receiver(-10, 5, 0);
      for (int star = 0; star < 5; star++) {
        sky.star(120, phases[star], 0, 0, 0);
        sky.listen(phases[star] < 24 ? 0 : 1, star);
      }
      Skies.observeThrice(sky, 0);
      due.is("LEVEL", sky.ofReceiver(0, LEVEL), 8);
    }
  }

  private static int misledAt(int x, int y, int stars, int alert) {
    Pseudorange sky = Skies.above(stars);
    sky.alert(0, alert);
    sky.go(0, x, y);
    sky.observe(0);
    return sky.ofReceiver(0, MISLED);
  }

  /** The SOLUTION is (-12, 0), the LEVEL 3. */
  static void p20_misledIfItIsFartherThanTheLevel(Due due) {
    due.is("3 to the right", misledAt(-9, 0, 4, 6), 0);
    due.is("4 to the right", misledAt(-8, 0, 4, 6), 1);
    due.is("3 up", misledAt(-12, 3, 4, 6), 0);
    due.is("4 up", misledAt(-12, 4, 4, 6), 1);
    due.is("nowhere else", misledAt(-12, 0, 4, 6), 0);
    due.is("24 to the right", misledAt(12, 12, 4, 6), 1);
  }

  static void p20_misledOnlyWithoutAlarm(Due due) {
    due.is("LEVEL 3 and ALERT 3", misledAt(0, 0, 4, 3), 1);
    due.is("LEVEL 3 and ALERT 2", misledAt(0, 0, 4, 2), 0);
    due.is("3 are USED", misledAt(0, 0, 3, 6), 0);
    due.is("none is USED", misledAt(12, 12, 0, 6), 0);
  }

  static void p20_misledIsCountedOnceForEachObservation(Due due) {
    Pseudorange sky = Skies.above(4);
    for (int i = 1; i <= 3; i++) {
      sky.observe(0);
      due.is("MISLED", sky.ofReceiver(0, MISLED), i);
      sky.go(0, i, 0);
      due.is("MISLED stays", sky.ofReceiver(0, MISLED), i);
      sky.pass(1);
    }
  }

  static void p20_latestAlarmAbove0(Due due) {
    Pseudorange sky = Skies.above(4);
    sky.observe(0);
    due.is("none yet", sky.ofReceiver(0, ALARMED), -1);
    due.is("ALARM", sky.ofReceiver(0, ALARM), 0);
    sky.alert(0, 2);
    Skies.passAndObserve(sky, 0);
    due.is("in EPOCH 1", sky.ofReceiver(0, ALARMED), 1);
    due.is("ALARM", sky.ofReceiver(0, ALARM), 3);
    sky.alert(0, 3);
    Skies.passAndObserve(sky, 0);
    due.is("it stays", sky.ofReceiver(0, ALARMED), 1);
    due.is("ALARM", sky.ofReceiver(0, ALARM), 0);
    Pseudorange first = Skies.above(3);
    first.observe(0);
    due.is("in EPOCH 0", first.ofReceiver(0, ALARMED), 0);
  }

  static void p20_errorIsToWhereItIsNow(Due due) {
    Pseudorange sky = Skies.above(4);
    sky.go(0, 12, 12);
    due.is("without a SOLUTION", sky.ofReceiver(0, ERROR), 0);
    sky.observe(0);
    due.is("from (-12, 0)", sky.ofReceiver(0, ERROR), 24);
    sky.go(0, -12, 0);
    due.is("from (-12, 0)", sky.ofReceiver(0, ERROR), 0);
    sky.go(0, -12, 12);
    due.is("from (-12, 0)", sky.ofReceiver(0, ERROR), 12);
  }

  // ---- promise 22

  static void p22_numbersAre0To2(Due due) {
    due.limits("RECEIVER", 0, 2, INDEX, Skies::most, (sky, v) -> sky.meanError(v));
    due.limits("RECEIVER of one", 0, 0, INDEX, () -> Skies.above(1), (sky, v) -> sky.meanError(v));
  }

  static void p22_nothingWithoutAny(Due due) {
    due.is("ahead of all", Skies.above(4).meanError(0), 0.0);
    for (int stars = 0; stars <= 2; stars++) {
      Pseudorange sky = Skies.above(stars);
      sky.go(0, 12, 12);
      sky.observe(0);
      due.is("with " + stars + " USED", sky.meanError(0), 0.0);
    }
  }

  static void p22_with3UsedItCounts(Due due) {
    Pseudorange sky = Skies.above(3);
    sky.observe(0);
    due.is("12 from (-12, 0)", sky.meanError(0), 12.0);
  }

  static void p22_theMeanIsNotCut(Due due) {
    Pseudorange sky = Skies.above(3);
    sky.observe(0);
    sky.go(0, -11, 0);
    Skies.passAndObserve(sky, 0);
    due.is("12 and 1", sky.meanError(0), 6.5);
    sky.go(0, -12, 0);
    Skies.passAndObserve(sky, 0);
    due.is("12, 1 and 0", sky.meanError(0), 13.0 / 3.0);
  }

  static void p22_with2UsedItDoesNotCount(Due due) {
    Pseudorange sky = Skies.above(3);
    sky.observe(0);
    sky.health(0, false);
    sky.go(0, 12, 12);
    Skies.passAndObserve(sky, 0);
    due.is("12 alone", sky.meanError(0), 12.0);
    sky.health(0, true);
    Skies.passAndObserve(sky, 0);
    due.is("12 and 24", sky.meanError(0), 18.0);
  }

  static void p22_whereItWasThen(Due due) {
    Pseudorange sky = Skies.above(3);
    sky.observe(0);
    sky.go(0, -12, 0);
    due.is("12 then", sky.meanError(0), 12.0);
  }
}

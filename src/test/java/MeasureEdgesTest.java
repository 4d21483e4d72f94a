/** The boundary cases of promise 19: what is measured of a STAR, and its CORRECTIONS. */
public final class MeasureEdgesTest {
  private static final Class<IllegalArgumentException> ARGUMENT = IllegalArgumentException.class;
  private static final Class<IndexOutOfBoundsException> INDEX = IndexOutOfBoundsException.class;
  private static final int CODE = 0;
  private static final int WAVE = 1;
  private static final int COUNT = 2;
  private static final int LEFT = 3;
  private static final int KEPT = 4;
  private static final int FIXED = 5;
  private static final int USED = 6;
  private static final int CORRECTION = 7;

  public static void main(String[] args) {
    Numbered.run(MeasureEdgesTest.class, 19);
  }

  private static void seenIs(Due due, Pseudorange sky, int receiver, int star, int... want) {
    for (int what = 0; what < want.length; what++) {
      due.is("seen(" + receiver + ", " + star + ", " + what + ")", sky.seen(receiver, star, what),
          want[what]);
    }
  }

  private static void notSeen(Due due, Pseudorange sky, int receiver, int star) {
    seenIs(due, sky, receiver, star, -1, -1, -1, -1, -1, 0, 0, -1);
  }

  // ---- what is asked

  static void p19_receiversAre0To2(Due due) {
    due.limits("RECEIVER", 0, 2, INDEX, Skies::most, (sky, v) -> sky.seen(v, 0, 0));
    due.limits("RECEIVER of one", 0, 0, INDEX, () -> Skies.above(2), (sky, v) -> sky.seen(v, 0, 0));
  }

  static void p19_starsAre0To7(Due due) {
    due.limits("STAR", 0, 7, INDEX, Skies::most, (sky, v) -> sky.seen(0, v, 0));
    due.limits("STAR of two", 0, 1, INDEX, () -> Skies.above(2), (sky, v) -> sky.seen(0, v, 0));
  }

  static void p19_whatIs0To7(Due due) {
    due.limits("what", 0, 7, ARGUMENT, Skies::most, (sky, v) -> sky.seen(0, 0, v));
  }

  static void p19_noSuchNumberIsNamedFirst(Due due) {
    Pseudorange sky = Skies.above(2);
    due.fails(sky, INDEX, "seen(1, 0, 8)", () -> sky.seen(1, 0, 8));
    due.fails(sky, INDEX, "seen(0, 2, 8)", () -> sky.seen(0, 2, 8));
    due.fails(sky, INDEX, "seen(-1, -1, -1)", () -> sky.seen(-1, -1, -1));
  }

  static void p19_nothingIsSeenAheadOfAll(Due due) {
    notSeen(due, Skies.above(1), 0, 0);
  }

  static void p19_aStarThatWasNotSeen(Due due) {
    Pseudorange sky = Skies.above(2);
    sky.health(1, false);
    sky.observe(0);
    notSeen(due, sky, 0, 1);
    sky.health(1, true);
    notSeen(due, sky, 0, 1);
    due.is("the other is", sky.seen(0, 0, KEPT), 1);
    sky.health(0, false);
    due.is("the other still was", sky.seen(0, 0, KEPT), 1);
    Skies.passAndObserve(sky, 0);
    notSeen(due, sky, 0, 0);
    due.is("now that one is", sky.seen(0, 1, KEPT), 1);
  }

  static void p19_aStarToldLaterWasNotSeen(Due due) {
    Pseudorange sky = Skies.above(1);
    sky.observe(0);
    sky.star(60, 0, 0, 0, 0);
    notSeen(due, sky, 0, 1);
  }

  static void p19_ofTheLatestObservationAlone(Due due) {
    Pseudorange sky = Skies.above(1);
    sky.observe(0);
    sky.jump(0, 50, 0);
    sky.pass(3);
    due.is("CODE", sky.seen(0, 0, CODE), 118);
    sky.observe(0);
    due.is("CODE", sky.seen(0, 0, CODE), 120 + 50 - 1);
  }

  /** RADIUS 72 and 66, two PHASES above the ground: y 12 and 11; the HILLS are 0. */
  static void p19_onlyWhatItSees(Due due) {
    Pseudorange sky = new Pseudorange();
    sky.star(72, 10, 0, 0, 0);
    sky.star(66, 10, 0, 0, 0);
    sky.receiver(0, 12, 0);
    sky.hills(0, 0, 0);
    sky.observe(0);
    due.is("y 12 from 12", sky.seen(0, 0, KEPT), 1);
    notSeen(due, sky, 0, 1);
  }

  static void p19_aStarThatWasFixedAndIsNotSeen(Due due) {
    Pseudorange sky = Skies.above(1);
    Skies.observeThrice(sky, 0);
    seenIs(due, sky, 0, 0, 122, 0, 12, 2, 3, 1, 1, 0);
    sky.health(0, false);
    Skies.passAndObserve(sky, 0);
    notSeen(due, sky, 0, 0);
  }

  /** RADIUS 60, HILLS 10: y is 10 and falls to 5, or is 5 and rises to 10. */
  static void p19_seenAsItStandsInThisEpoch(Due due) {
    Pseudorange sky = new Pseudorange();
    sky.star(60, 10, 1, 0, 0);
    sky.star(60, 11, -1, 0, 0);
    sky.receiver(0, 0, 0);
    sky.hills(0, 10, 10);
    sky.observe(0);
    due.is("it falls", sky.seen(0, 0, KEPT), 1);
    notSeen(due, sky, 0, 1);
    Skies.passAndObserve(sky, 0);
    notSeen(due, sky, 0, 0);
    due.is("it rises", sky.seen(0, 1, KEPT), 1);
  }

  // ---- the TRUE count, the CODE and the WAVE

  /** (-10, 110) and then (0, 120), both with SPOOFED 30; NOISE -2 and 0. */
  static void p19_rangeAndSideOfThisEpoch(Due due) {
    Pseudorange sky = new Pseudorange();
    sky.star(120, 47, 1, 0, 0);
    sky.receiver(0, 0, 0);
    sky.spoof(0, 30);
    sky.observe(0);
    due.is("on the left", sky.seen(0, 0, CODE), 110 + 30 - 2);
    Skies.passAndObserve(sky, 0);
    due.is("not on the left", sky.seen(0, 0, CODE), 120 - 30);
  }

  /** (60, 60) and then (70, 50), or (70, 50) and then (60, 60); IONO 9, NOISE -2 and 0. */
  static void p19_delayOfThisEpoch(Due due) {
    int[][] rows = {{6, 1, 60 + 9 - 2, 70 + 18}, {7, -1, 70 + 18 - 2, 60 + 9}};
    for (int[] row : rows) {
      Pseudorange sky = new Pseudorange();
      sky.star(120, row[0], row[1], 0, 0);
      sky.receiver(0, 0, 0);
      sky.air(0, 9, false);
      sky.observe(0);
      due.is("CODE", sky.seen(0, 0, CODE), row[2]);
      Skies.passAndObserve(sky, 0);
      due.is("CODE one EPOCH on", sky.seen(0, 0, CODE), row[3]);
    }
  }

  /** From x 0 and -1 a STAR at x 0 is not on the left, from 1 it is; NOISE -2. */
  static void p19_spoofedMoreOnlyOnTheLeft(Due due) {
    int[] x = {-1, 0, 1};
    int[] more = {60 - 30 - 2, 60 - 30 - 2, 60 + 30 - 2};
    int[] less = {60 + 30 - 2, 60 + 30 - 2, 60 - 30 - 2};
    for (int i = 0; i < x.length; i++) {
      Pseudorange sky = Skies.one(0);
      sky.go(0, x[i], 0);
      sky.spoof(0, 30);
      sky.observe(0);
      due.is("30 more at x " + x[i], sky.seen(0, 0, CODE), more[i]);
      sky.spoof(0, -30);
      sky.pass(5);
      sky.observe(0);
      due.is("30 less at x " + x[i], sky.seen(0, 0, CODE), less[i]);
    }
  }

  private static int codeWith(int phase, int x, int y, int iono, boolean isDual) {
    Pseudorange sky = new Pseudorange();
    sky.star(120, phase, 0, 0, 0);
    sky.receiver(x, y, 0);
    sky.air(0, iono, isDual);
    sky.observe(0);
    return sky.seen(0, 0, CODE);
  }

  /** STARS at (60, 60) and (-60, 60): from (0, 1) the difference of y is 59, from (1, 0) of x. */
  static void p19_twiceIonoOnlyIfTheDifferenceOfXIsGreater(Due due) {
    due.is("60 and 60", codeWith(6, 0, 0, 9, false), 60 + 9 - 2);
    due.is("60 and 59", codeWith(6, 0, 1, 9, false), 60 + 18 - 2);
    due.is("59 and 60", codeWith(6, 1, 0, 9, false), 60 + 9 - 2);
    due.is("-60 and 60", codeWith(42, 0, 0, 9, false), 60 + 9 - 2);
    due.is("-60 and 59", codeWith(42, 0, 1, 9, false), 60 + 18 - 2);
    due.is("-59 and 60", codeWith(42, -1, 0, 9, false), 60 + 9 - 2);
  }

  static void p19_noDelayIfDualOrWithoutIono(Due due) {
    due.is("DUAL, high", codeWith(0, 0, 0, 9, true), 120 - 2);
    due.is("DUAL, low", codeWith(9, 0, 0, 9, true), 90 - 2);
    due.is("IONO 0, high", codeWith(0, 0, 0, 0, false), 120 - 2);
    due.is("IONO 0, low", codeWith(9, 0, 0, 0, false), 90 - 2);
    due.is("IONO 1, low", codeWith(9, 0, 0, 1, false), 90 + 2 - 2);
  }

  static void p19_noiseIsMinus2To2InTheEpochs(Due due) {
    Pseudorange sky = Skies.one(0);
    int[] noise = {-2, 0, 2, -1, 1, -2, 0};
    for (int epoch = 0; epoch < noise.length; epoch++) {
      sky.observe(0);
      due.is("CODE in EPOCH " + epoch, sky.seen(0, 0, CODE), 60 + noise[epoch]);
      sky.pass(1);
    }
  }

  static void p19_noiseIsMinus2To2ForTheNumbers(Due due) {
    Pseudorange sky = Skies.above(8);
    sky.receiver(0, 0, 0);
    sky.receiver(0, 0, 0);
    int[][] noise = {
      {-2, 1, -1, 2, 0, -2, 1, -1}, {0, -2, 1, -1, 2, 0, -2, 1}, {2, 0, -2, 1, -1, 2, 0, -2},
    };
    for (int receiver = 0; receiver < 3; receiver++) {
      sky.observe(receiver);
      for (int star = 0; star < 8; star++) {
        due.is("CODE of " + star, sky.seen(receiver, star, CODE), 120 + noise[receiver][star]);
      }
    }
  }

  static void p19_noiseInALateEpoch(Due due) {
    Pseudorange sky = Skies.one(0);
    Skies.passOften(sky, 500);
    sky.pass(1);
    sky.observe(0);
    // 7 times 24001 is 168007
    due.is("CODE", sky.seen(0, 0, CODE), 60 + 2 - 2);
  }

  private static void waveOf(Due due, int trueCount, int want) {
    Pseudorange sky = Skies.one(trueCount - 60);
    sky.observe(0);
    due.is("CODE of " + trueCount, sky.seen(0, 0, CODE), trueCount - 2);
    due.is("WAVE of " + trueCount, sky.seen(0, 0, WAVE), want);
  }

  static void p19_waveWrapsAt10(Due due) {
    waveOf(due, 8, 8);
    waveOf(due, 9, 9);
    waveOf(due, 10, 0);
    waveOf(due, 11, 1);
    waveOf(due, 119, 9);
    waveOf(due, 120, 0);
  }

  static void p19_waveIsNeverBelow0(Due due) {
    waveOf(due, 1, 1);
    waveOf(due, 0, 0);
    waveOf(due, -1, 9);
    waveOf(due, -9, 1);
    waveOf(due, -10, 0);
    waveOf(due, -11, 9);
    waveOf(due, -440, 0);
  }

  static void p19_waveIsWithoutDelayAndNoise(Due due) {
    Pseudorange sky = Skies.one(3);
    sky.air(0, 9, false);
    sky.observe(0);
    due.is("WAVE", sky.seen(0, 0, WAVE), 3);
    due.is("CODE", sky.seen(0, 0, CODE), 63 + 9 - 2);
  }

  // ---- COUNT and LEFT

  /** In EPOCH 1 there is no NOISE: CODE less WAVE is the tens of the TRUE count, and IONO. */
  private static void countOf(Due due, int trueCount, int iono, int count, int left) {
    Pseudorange sky = Skies.one(trueCount - 60);
    sky.air(0, iono, false);
    Skies.passAndObserve(sky, 0);
    due.is("COUNT of " + trueCount + " and " + iono, sky.seen(0, 0, COUNT), count);
    due.is("LEFT of " + trueCount + " and " + iono, sky.seen(0, 0, LEFT), left);
  }

  static void p19_leftIsMinus5To4(Due due) {
    countOf(due, 60, 3, 6, 3);
    countOf(due, 60, 4, 6, 4);
    countOf(due, 60, 5, 7, -5);
    countOf(due, 60, 6, 7, -4);
    countOf(due, 69, 4, 6, 4);
    countOf(due, 69, 5, 7, -5);
  }

  static void p19_countIsRoundedDownBelow0(Due due) {
    countOf(due, -40, 0, -4, 0);
    countOf(due, -40, 4, -4, 4);
    countOf(due, -40, 5, -3, -5);
    countOf(due, -41, 4, -5, 4);
    countOf(due, -41, 5, -4, -5);
    countOf(due, -1, 4, -1, 4);
    countOf(due, -1, 5, 0, -5);
    countOf(due, 0, 4, 0, 4);
    countOf(due, 0, 0, 0, 0);
  }

  /** In the first EPOCH the NOISE is -2: less than a whole number of waves. */
  static void p19_countWithNoiseBelowTheWave(Due due) {
    Pseudorange sky = Skies.one(0);
    sky.observe(0);
    seenIs(due, sky, 0, 0, 58, 0, 6, -2);
    Pseudorange zero = Skies.one(-60);
    zero.observe(0);
    seenIs(due, zero, 0, 0, -2, 0, 0, -2);
    Pseudorange below = Skies.one(-61);
    below.observe(0);
    seenIs(due, below, 0, 0, -3, 9, -1, -2);
  }

  /** Twice IONO 9 on a low STAR in EPOCH 4, with NOISE 1: 19 are two waves less 1. */
  static void p19_countWithTheMostDelay(Due due) {
    Pseudorange sky = new Pseudorange();
    sky.star(120, 9, 0, 0, 0);
    sky.receiver(0, 0, 0);
    sky.air(0, 9, false);
    sky.pass(4);
    sky.observe(0);
    seenIs(due, sky, 0, 0, 109, 0, 11, -1);
  }

  // ---- KEPT and FIXED

  static void p19_keptFor1MoreEachEpoch(Due due) {
    Pseudorange sky = Skies.one(0);
    sky.observe(0);
    due.is("KEPT at first", sky.seen(0, 0, KEPT), 1);
    for (int kept = 2; kept <= 60; kept++) {
      Skies.passAndObserve(sky, 0);
      due.is("KEPT", sky.seen(0, 0, KEPT), kept);
    }
  }

  static void p19_keptAnewBehindAnEpochWithoutObservation(Due due) {
    Pseudorange sky = Skies.one(0);
    Skies.observeThrice(sky, 0);
    due.is("KEPT", sky.seen(0, 0, KEPT), 3);
    sky.pass(2);
    sky.observe(0);
    due.is("KEPT", sky.seen(0, 0, KEPT), 1);
    Skies.passAndObserve(sky, 0);
    due.is("KEPT", sky.seen(0, 0, KEPT), 2);
    sky.pass(48);
    sky.observe(0);
    due.is("KEPT", sky.seen(0, 0, KEPT), 1);
  }

  static void p19_keptAnewBehindAnObservationThatDidNotSeeIt(Due due) {
    Pseudorange sky = Skies.one(0);
    Skies.observeThrice(sky, 0);
    sky.health(0, false);
    Skies.passAndObserve(sky, 0);
    sky.health(0, true);
    Skies.passAndObserve(sky, 0);
    due.is("KEPT", sky.seen(0, 0, KEPT), 1);
    due.is("FIXED", sky.seen(0, 0, FIXED), 0);
    Skies.passAndObserve(sky, 0);
    due.is("KEPT", sky.seen(0, 0, KEPT), 2);
    due.is("FIXED", sky.seen(0, 0, FIXED), 0);
    Skies.passAndObserve(sky, 0);
    due.is("KEPT", sky.seen(0, 0, KEPT), 3);
    due.is("FIXED", sky.seen(0, 0, FIXED), 1);
  }

  static void p19_keptWhatHappensBetweenTwoObservations(Due due) {
    Pseudorange sky = Skies.one(0);
    sky.observe(0);
    sky.health(0, false);
    sky.pass(1);
    sky.health(0, true);
    sky.go(0, 12, 12);
    sky.push(0, 1);
    sky.observe(0);
    due.is("KEPT", sky.seen(0, 0, KEPT), 2);
  }

  static void p19_keptByEachReceiverForItself(Due due) {
    Pseudorange sky = Skies.one(0);
    sky.receiver(0, 0, 0);
    sky.observe(0);
    sky.observe(1);
    Skies.passAndObserve(sky, 1);
    sky.pass(1);
    sky.observe(0);
    sky.observe(1);
    due.is("KEPT", sky.seen(0, 0, KEPT), 1);
    due.is("KEPT", sky.seen(1, 0, KEPT), 3);
  }

  static void p19_fixedIfKeptFor3(Due due) {
    Pseudorange sky = Skies.one(0);
    int[] fixed = {0, 0, 1, 1};
    for (int i = 0; i < fixed.length; i++) {
      sky.observe(0);
      due.is("KEPT", sky.seen(0, 0, KEPT), i + 1);
      due.is("FIXED", sky.seen(0, 0, FIXED), fixed[i]);
      sky.pass(1);
    }
    sky.pass(1);
    sky.observe(0);
    due.is("FIXED, kept anew", sky.seen(0, 0, FIXED), 0);
  }

  /** Observes so that this is LEFT in each EPOCH, by an IONO that makes up for the NOISE. */
  private static int fixedBehind(Due due, int... left) {
    Pseudorange sky = Skies.one(0);
    for (int i = 0; i < left.length; i++) {
      sky.air(0, Math.floorMod(left[i] - Skies.noise(i, 0, 0), 10), false);
      sky.observe(0);
      due.is("LEFT", sky.seen(0, 0, LEFT), left[i]);
      sky.pass(1);
    }
    return sky.seen(0, 0, FIXED);
  }

  static void p19_fixedWithLeftUpTo2(Due due) {
    due.is("2, 2, 2", fixedBehind(due, 2, 2, 2), 1);
    due.is("2, 2, 3", fixedBehind(due, 2, 2, 3), 0);
    due.is("2, 3, 2", fixedBehind(due, 2, 3, 2), 0);
    due.is("3, 2, 2", fixedBehind(due, 3, 2, 2), 0);
    due.is("4, 0, 0", fixedBehind(due, 4, 0, 0), 0);
  }

  static void p19_fixedWithLeftDownToMinus2(Due due) {
    due.is("-2, -2, -2", fixedBehind(due, -2, -2, -2), 1);
    due.is("-2, -2, -3", fixedBehind(due, -2, -2, -3), 0);
    due.is("-2, -3, -2", fixedBehind(due, -2, -3, -2), 0);
    due.is("-3, -2, -2", fixedBehind(due, -3, -2, -2), 0);
    due.is("-5, 0, 0", fixedBehind(due, -5, 0, 0), 0);
  }

  static void p19_fixedByTheTwoAheadAlone(Due due) {
    due.is("3, 2, 2, 2", fixedBehind(due, 3, 2, 2, 2), 1);
    due.is("2, 3, 2, 2", fixedBehind(due, 2, 3, 2, 2), 0);
    due.is("2, 3, 2, 2, 2", fixedBehind(due, 2, 3, 2, 2, 2), 1);
    due.is("0, 0, 0, -3", fixedBehind(due, 0, 0, 0, -3), 0);
    due.is("0, 0, 0, -3, 0, 0", fixedBehind(due, 0, 0, 0, -3, 0, 0), 0);
    due.is("0, 0, 0, -3, 0, 0, 0", fixedBehind(due, 0, 0, 0, -3, 0, 0, 0), 1);
  }

  /** What was LEFT well ahead of the EPOCH without an observation does not count. */
  static void p19_fixedNotByWhatWasKeptBefore(Due due) {
    Pseudorange sky = Skies.one(0);
    Skies.observeThrice(sky, 0);
    sky.pass(2);
    sky.observe(0);
    Skies.passAndObserve(sky, 0);
    due.is("KEPT for 2", sky.seen(0, 0, FIXED), 0);
    Skies.passAndObserve(sky, 0);
    due.is("KEPT for 3", sky.seen(0, 0, FIXED), 1);
  }

  // ---- USED

  static void p19_usedOnlyWithAMessage(Due due) {
    Pseudorange sky = Skies.one(0);
    sky.station(0, 0);
    sky.observe(0);
    due.is("USED", sky.seen(0, 0, USED), 0);
    sky.listen(0, 0);
    due.is("USED", sky.seen(0, 0, USED), 0);
    Skies.passAndObserve(sky, 0);
    due.is("USED", sky.seen(0, 0, USED), 1);
  }

  static void p19_usedInTheEpochOfTheMessage(Due due) {
    Pseudorange sky = Skies.above(1);
    sky.observe(0);
    due.is("USED", sky.seen(0, 0, USED), 1);
  }

  static void p19_usedWhileTheMessageHoldsFor12(Due due) {
    int[] epochs = {11, 12, 13, 14};
    int[] used = {1, 1, 0, 0};
    for (int i = 0; i < epochs.length; i++) {
      Pseudorange sky = Skies.above(1);
      sky.pass(epochs[i]);
      sky.observe(0);
      due.is("USED behind " + epochs[i], sky.seen(0, 0, USED), used[i]);
      due.is("KEPT behind " + epochs[i], sky.seen(0, 0, KEPT), 1);
    }
  }

  static void p19_notUsedAnyMore(Due due) {
    Pseudorange sky = Skies.above(1);
    sky.pass(12);
    sky.observe(0);
    due.is("USED", sky.seen(0, 0, USED), 1);
    Skies.passAndObserve(sky, 0);
    due.is("USED", sky.seen(0, 0, USED), 0);
    due.is("KEPT", sky.seen(0, 0, KEPT), 2);
  }

  // ---- CORRECTIONS

  /** RECEIVERS 0 and 1 at (0, 0); RECEIVER 0 is the REFERENCE of 1. */
  private static Pseudorange withReference(int stars) {
    Pseudorange sky = Skies.above(stars);
    sky.receiver(0, 0, 0);
    sky.refer(1, 0);
    return sky;
  }

  private static void correctionsAre(Due due, Pseudorange sky, int receiver, int... want) {
    for (int star = 0; star < want.length; star++) {
      due.is("CORRECTION of " + star, sky.seen(receiver, star, CORRECTION), want[star]);
    }
  }

  /** NOISE -2, 1, -1, 2, whose mean is 0. */
  static void p19_correctionInTheSameEpoch(Due due) {
    Pseudorange sky = withReference(4);
    sky.observe(0);
    sky.observe(1);
    correctionsAre(due, sky, 1, -2, 1, -1, 2);
    correctionsAre(due, sky, 0, 0, 0, 0, 0);
  }

  static void p19_correctionIsNoMoreThan5EpochsOld(Due due) {
    int[] epochs = {1, 4, 5, 6, 7};
    boolean[] stands = {true, true, true, false, false};
    for (int i = 0; i < epochs.length; i++) {
      Pseudorange sky = withReference(4);
      sky.observe(0);
      sky.pass(epochs[i]);
      sky.observe(1);
      due.is("USED", sky.seen(1, 0, USED), 1);
      if (stands[i]) {
        correctionsAre(due, sky, 1, -2, 1, -1, 2);
      } else {
        correctionsAre(due, sky, 1, 0, 0, 0, 0);
      }
    }
  }

  static void p19_noCorrectionWithoutAReference(Due due) {
    Pseudorange sky = withReference(4);
    sky.observe(0);
    sky.refer(1, -1);
    sky.observe(1);
    correctionsAre(due, sky, 1, 0, 0, 0, 0);
  }

  static void p19_noCorrectionIfTheReferenceNeverObserved(Due due) {
    Pseudorange sky = withReference(4);
    sky.observe(1);
    correctionsAre(due, sky, 1, 0, 0, 0, 0);
  }

  static void p19_noCorrectionOfAStarThatTheReferenceDidNotUse(Due due) {
    Pseudorange sky = withReference(4);
    sky.health(3, false);
    sky.observe(0);
    sky.health(3, true);
    sky.observe(1);
    // NOISE -2, 1, -1: the mean is -2 by 3, rounded down -1
    correctionsAre(due, sky, 1, -1, 2, 0, 0);
    due.is("USED", sky.seen(1, 3, USED), 1);
  }

  static void p19_noCorrectionOfAStarNotUsedInTheLatest(Due due) {
    Pseudorange sky = withReference(4);
    sky.observe(0);
    sky.health(3, false);
    Skies.passAndObserve(sky, 0);
    sky.health(3, true);
    sky.observe(1);
    // NOISE 0, -2, 1: the mean is -1 by 3, rounded down -1
    correctionsAre(due, sky, 1, 1, -1, 2, 0);
  }

  static void p19_correctionOfOneStarIsNothing(Due due) {
    Pseudorange sky = withReference(1);
    sky.observe(0);
    sky.observe(1);
    correctionsAre(due, sky, 1, 0);
  }

  /** NOISE -2 and 1: the mean is -1 by 2, rounded down -1. */
  static void p19_correctionOfTwoStars(Due due) {
    Pseudorange sky = withReference(2);
    due.is("too few for a SOLUTION", sky.observe(0), 1);
    sky.observe(1);
    correctionsAre(due, sky, 1, -1, 2);
  }

  /** The clocks jumped together by what makes the sum -3, -2, -1, 0, 1, 2, 3 for three STARS. */
  static void p19_meanIsRoundedDownAlsoBelow0(Due due) {
    int[] mean = {-1, -1, -1, 0, 0, 0, 1};
    for (int sum = -3; sum <= 3; sum++) {
      Pseudorange sky = withReference(3);
      // NOISE -2, 1, -1
      Skies.jump(sky, sum + 2, -1, 1);
      sky.observe(0);
      sky.observe(1);
      correctionsAre(due, sky, 1, sum - mean[sum + 3], -mean[sum + 3], -mean[sum + 3]);
    }
  }

  static void p19_correctionFromWhereTheReferenceWasThen(Due due) {
    Pseudorange sky = withReference(4);
    sky.observe(0);
    sky.go(0, 12, 12);
    sky.spoof(0, 30);
    sky.air(0, 9, false);
    sky.observe(1);
    correctionsAre(due, sky, 1, -2, 1, -1, 2);
  }

  static void p19_correctionByTheMessageOfThen(Due due) {
    Pseudorange sky = withReference(4);
    sky.observe(0);
    sky.jump(0, 50, 0);
    sky.push(1, 5);
    sky.listen(0, 0);
    sky.listen(0, 1);
    sky.observe(1);
    correctionsAre(due, sky, 1, -2, 1, -1, 2);
  }

  static void p19_noCorrectionOfAStarThatIsNotUsed(Due due) {
    Pseudorange sky = withReference(4);
    sky.pass(1);
    sky.listen(0, 0);
    sky.pass(11);
    sky.observe(0);
    due.is("USED by the REFERENCE", sky.seen(0, 1, USED), 1);
    Skies.passAndObserve(sky, 1);
    due.is("USED", sky.seen(1, 0, USED), 1);
    due.is("USED", sky.seen(1, 1, USED), 0);
    // in EPOCH 12: NOISE 2, 0, -2, 1, whose mean is 1 by 4, rounded down 0
    correctionsAre(due, sky, 1, 2, 0, 0, 0);
  }

  /** RECEIVER 1 has NOISE 0, -2, 1, -1: its mean is -2 by 4, rounded down -1. */
  static void p19_correctionWithoutTheCorrectionsOfTheReference(Due due) {
    Pseudorange sky = withReference(4);
    sky.receiver(0, 0, 0);
    sky.refer(2, 1);
    sky.observe(0);
    sky.observe(1);
    sky.observe(2);
    correctionsAre(due, sky, 1, -2, 1, -1, 2);
    correctionsAre(due, sky, 2, 1, -1, 2, 0);
  }

  static void p19_correctionOfWhatIsFixedIsWithoutNoise(Due due) {
    Pseudorange sky = withReference(4);
    Skies.observeThrice(sky, 0);
    sky.observe(1);
    correctionsAre(due, sky, 1, 0, 0, 0, 0);
    sky.pass(1);
    sky.jump(0, 8, 0);
    sky.observe(0);
    sky.observe(1);
    correctionsAre(due, sky, 1, 6, -2, -2, -2);
  }

  /** In EPOCH 12 all are USED and corrected, in EPOCH 13 only STAR 0 is. */
  static void p19_anOldCorrectionDoesNotStay(Due due) {
    Pseudorange sky = withReference(4);
    sky.pass(1);
    sky.listen(0, 0);
    sky.pass(11);
    sky.observe(0);
    sky.observe(1);
    // in EPOCH 12: NOISE 2, 0, -2, 1, whose mean is 1 by 4, rounded down 0
    correctionsAre(due, sky, 1, 2, 0, -2, 1);
    Skies.passAndObserve(sky, 1);
    due.is("not USED", sky.seen(1, 3, USED), 0);
    correctionsAre(due, sky, 1, 2, 0, 0, 0);
    sky.refer(1, -1);
    Skies.passAndObserve(sky, 1);
    correctionsAre(due, sky, 1, 0, 0, 0, 0);
  }

  /** What the MESSAGES tell is taken away: OFFSETS 0, 7, -7, 90 and the NOISE -2, 1, -1, 2. */
  static void p19_correctionLessTheOffsetByTheMessage(Due due) {
    Pseudorange sky = new Pseudorange();
    int[] offsets = {0, 7, -7, 90};
    sky.station(0, 0);
    sky.receiver(0, 0, 0);
    sky.receiver(0, 0, 0);
    sky.refer(1, 0);
    for (int star = 0; star < offsets.length; star++) {
      sky.star(120, 0, 0, offsets[star], 0);
      sky.listen(0, star);
    }
    sky.observe(0);
    sky.observe(1);
    correctionsAre(due, sky, 1, -2, 1, -1, 2);
  }

  /**
   * The clocks of STARS 1, 2 and 3 are 30, -60 and 30 off, which is 0 in the mean; whoever observes
   * has no NOISE. Corrected by that the SOLUTION is where RECEIVER 1 is, with its BIAS as TIME.
   */
  static void p19_pseudorangeIsLessTheCorrection(Due due) {
    Pseudorange sky = Skies.heardCross(3, 5, 0);
    sky.receiver(-4, 2, 9);
    sky.alert(1, 24);
    sky.refer(1, 0);
    int[] off = {0, 30, -60, 30, 0};
    Skies.jump(sky, off);
    Skies.quiet(sky, 0, 0, 1, 2, 3, 4);
    sky.observe(0);
    for (int star = 0; star < 5; star++) {
      sky.jump(star, Skies.noise(0, star, 0), 0);
    }
    Skies.quiet(sky, 1, 0, 1, 2, 3, 4);
    due.is("observe", sky.observe(1), 0);
    correctionsAre(due, sky, 1, off);
    int[] solution = {-4, 2, 9, 0};
    for (int i = 0; i < solution.length; i++) {
      due.is("ofReceiver(1, " + (i + 5) + ")", sky.ofReceiver(1, i + 5), solution[i]);
    }
  }
}

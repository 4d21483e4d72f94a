/** The boundary cases of promises 8 to 15: RECEIVERS as they are told, and EPOCHS that pass. */
public final class ReceiverEdgesTest {
  private static final Class<IllegalArgumentException> ARGUMENT = IllegalArgumentException.class;
  private static final Class<IllegalStateException> STATE = IllegalStateException.class;
  private static final Class<IndexOutOfBoundsException> INDEX = IndexOutOfBoundsException.class;

  public static void main(String[] args) {
    Numbered.run(ReceiverEdgesTest.class, 8, 9, 10, 11, 12, 13, 14, 15);
  }

  private static Pseudorange two() {
    Pseudorange sky = new Pseudorange();
    sky.receiver(0, 0, 0);
    sky.receiver(1, 1, 0);
    return sky;
  }

  // ---- promise 8

  static void p08_xIsMinus12To12(Due due) {
    due.limits("x", -12, 12, ARGUMENT, Pseudorange::new, (sky, v) -> sky.receiver(v, 0, 0));
  }

  static void p08_yIs0To12(Due due) {
    due.limits("y", 0, 12, ARGUMENT, Pseudorange::new, (sky, v) -> sky.receiver(0, v, 0));
  }

  static void p08_biasIsMinus99To99(Due due) {
    due.limits("bias", -99, 99, ARGUMENT, Pseudorange::new, (sky, v) -> sky.receiver(0, 0, v));
  }

  static void p08_numbersAre0To2(Due due) {
    Pseudorange sky = new Pseudorange();
    for (int i = 0; i < 3; i++) {
      due.is("receiver", sky.receiver(i, i, i), i);
      due.is("RECEIVERS", sky.many(3), i + 1);
    }
  }

  static void p08_aFourthIsRefused(Due due) {
    Pseudorange sky = Skies.most();
    due.fails(sky, STATE, "the fourth", () -> sky.receiver(0, 0, 0));
    due.fails(sky, STATE, "the fourth again", () -> sky.receiver(12, 12, 99));
    due.is("RECEIVERS", sky.many(3), 3);
  }

  static void p08_aWrongFourthIsAWrongArgumentFirst(Due due) {
    Pseudorange sky = Skies.most();
    due.fails(sky, ARGUMENT, "x", () -> sky.receiver(-13, 0, 0));
    due.fails(sky, ARGUMENT, "y", () -> sky.receiver(0, 13, 0));
    due.fails(sky, ARGUMENT, "bias", () -> sky.receiver(0, 0, 100));
  }

  static void p08_aRefusedReceiverTakesNoNumber(Due due) {
    Pseudorange sky = new Pseudorange();
    due.fails(sky, ARGUMENT, "y -1", () -> sky.receiver(0, -1, 0));
    due.is("the first", sky.receiver(0, 0, 0), 0);
    due.fails(sky, ARGUMENT, "bias -100", () -> sky.receiver(0, 0, -100));
    due.is("the second", sky.receiver(0, 0, 0), 1);
  }

  static void p08_theEndsStandAsTold(Due due) {
    Pseudorange sky = new Pseudorange();
    sky.receiver(-12, 0, -99);
    sky.receiver(12, 12, 99);
    sky.star(60, 0, 0, 0, 0);
    sky.observe(0);
    sky.observe(1);
    int[] least = {sky.ofReceiver(0, 0), sky.ofReceiver(0, 1), sky.seen(0, 0, 0)};
    int[] most = {sky.ofReceiver(1, 0), sky.ofReceiver(1, 1), sky.seen(1, 0, 0)};
    due.is("least x", least[0], -12);
    due.is("least y", least[1], 0);
    due.is("CODE with BIAS -99", least[2], 60 - 99 - 2);
    due.is("greatest x", most[0], 12);
    due.is("greatest y", most[1], 12);
    due.is("CODE with BIAS 99", most[2], 48 + 99 + 0);
  }

  static void p08_whatItIsAtFirst(Due due) {
    Pseudorange sky = two();
    due.is("IONO", sky.air(1, 3, false), 0);
    due.is("ALERT", sky.alert(1, 3), 6);
    due.is("SPOOFED", sky.spoof(1, 3), 0);
    due.is("REFERENCE", sky.refer(1, 0), -1);
  }

  /** RADIUS 60: (50, 10) and (-50, 10); from y 5 both are 5 above, from y 6 only 4. */
  static void p08_hillsAre5AtFirst(Due due) {
    Pseudorange sky = new Pseudorange();
    sky.star(60, 10, 0, 0, 0);
    sky.star(60, 38, 0, 0, 0);
    sky.receiver(0, 5, 0);
    sky.receiver(0, 6, 0);
    due.is("5 above", sky.wouldSee(0, 0), 3);
    due.is("4 above", sky.wouldSee(1, 0), 0);
  }

  // ---- promise 9

  static void p09_xIsMinus12To12(Due due) {
    due.limits("x", -12, 12, ARGUMENT, ReceiverEdgesTest::two, (sky, v) -> sky.go(0, v, 0));
  }

  static void p09_yIs0To12(Due due) {
    due.limits("y", 0, 12, ARGUMENT, ReceiverEdgesTest::two, (sky, v) -> sky.go(0, 0, v));
  }

  static void p09_numbersAre0To2(Due due) {
    due.limits("RECEIVER", 0, 2, INDEX, Skies::most, (sky, v) -> sky.go(v, 0, 0));
    due.limits("RECEIVER of two", 0, 1, INDEX, ReceiverEdgesTest::two, (sky, v) -> sky.go(v, 0, 0));
  }

  static void p09_noSuchReceiverIsNamedFirst(Due due) {
    Pseudorange sky = two();
    due.fails(sky, INDEX, "go(2, 13, 0)", () -> sky.go(2, 13, 0));
    due.fails(sky, INDEX, "go(-1, 0, -1)", () -> sky.go(-1, 0, -1));
  }

  private static int way(int fromX, int fromY, int x, int y) {
    Pseudorange sky = new Pseudorange();
    sky.receiver(fromX, fromY, 0);
    return sky.go(0, x, y);
  }

  static void p09_rangeIsTheGreaterDifferenceWithoutSign(Due due) {
    due.is("nowhere else", way(3, 4, 3, 4), 0);
    due.is("x by 1", way(3, 4, 4, 4), 1);
    due.is("x by -1", way(3, 4, 2, 4), 1);
    due.is("y by 1", way(3, 4, 3, 5), 1);
    due.is("y by -1", way(3, 4, 3, 3), 1);
    due.is("both the same", way(0, 0, 5, 5), 5);
    due.is("x more", way(0, 0, -6, 5), 6);
    due.is("y more", way(0, 12, 5, 6), 6);
    due.is("the whole way", way(-12, 0, 12, 12), 24);
    due.is("the whole way back", way(12, 12, -12, 0), 24);
    due.is("the whole way up", way(0, 0, 0, 12), 12);
  }

  static void p09_aRefusedWayLeavesItWhereItIs(Due due) {
    Pseudorange sky = two();
    due.fails(sky, ARGUMENT, "x is fine, y is not", () -> sky.go(0, 5, 13));
    due.fails(sky, ARGUMENT, "y is fine, x is not", () -> sky.go(0, -13, 5));
    due.is("x", sky.ofReceiver(0, 0), 0);
    due.is("y", sky.ofReceiver(0, 1), 0);
    due.is("from there", sky.go(0, 0, 0), 0);
  }

  // ---- promise 10

  static void p10_leftIs0To60(Due due) {
    due.limits("left", 0, 60, ARGUMENT, ReceiverEdgesTest::two, (sky, v) -> sky.hills(0, v, 0));
  }

  static void p10_rightIs0To60(Due due) {
    due.limits("right", 0, 60, ARGUMENT, ReceiverEdgesTest::two, (sky, v) -> sky.hills(0, 0, v));
  }

  static void p10_numbersAre0To2(Due due) {
    due.limits("RECEIVER", 0, 2, INDEX, Skies::most, (sky, v) -> sky.hills(v, 0, 0));
    due.limits("RECEIVER of two", 0, 1, INDEX, ReceiverEdgesTest::two,
        (sky, v) -> sky.hills(v, 0, 0));
  }

  static void p10_noSuchReceiverIsNamedFirst(Due due) {
    Pseudorange sky = two();
    due.fails(sky, INDEX, "hills(2, 61, 0)", () -> sky.hills(2, 61, 0));
    due.fails(sky, INDEX, "hills(-1, 0, -1)", () -> sky.hills(-1, 0, -1));
  }

  /** What is seen from (x, y) of a STAR at (60, 60), (-60, 60), or with RADIUS 60 at (0, 60). */
  private static int seenFrom(int radius, int phase, int x, int y, int left, int right) {
    Pseudorange sky = new Pseudorange();
    sky.star(radius, phase, 0, 0, 0);
    sky.receiver(x, y, 0);
    return sky.hills(0, left, right);
  }

  static void p10_noLessThanTheHillOnTheRight(Due due) {
    due.is("60 behind 60", seenFrom(120, 6, 0, 0, 0, 60), 1);
    due.is("59 behind 60", seenFrom(120, 6, 0, 1, 0, 60), 0);
    due.is("48 behind 48", seenFrom(120, 6, 0, 12, 60, 48), 1);
    due.is("48 behind 49", seenFrom(120, 6, 0, 12, 0, 49), 0);
  }

  static void p10_noLessThanTheHillOnTheLeft(Due due) {
    due.is("60 behind 60", seenFrom(120, 42, 0, 0, 60, 0), 1);
    due.is("59 behind 60", seenFrom(120, 42, 0, 1, 60, 0), 0);
    due.is("48 behind 48", seenFrom(120, 42, 0, 12, 48, 60), 1);
    due.is("48 behind 49", seenFrom(120, 42, 0, 12, 49, 0), 0);
  }

  /** RADIUS 72 and 66 two PHASES above the ground: y 12 and 11. */
  static void p10_withoutAHillAsHighAsItIsEnough(Due due) {
    due.is("12 from 12", seenFrom(72, 10, 0, 12, 0, 0), 1);
    due.is("11 from 12", seenFrom(66, 10, 0, 12, 0, 0), 0);
    due.is("12 from 12 on the left", seenFrom(72, 38, 0, 12, 0, 0), 1);
    due.is("11 from 12 on the left", seenFrom(66, 38, 0, 12, 0, 0), 0);
    due.is("0 from 0", seenFrom(60, 12, 0, 0, 0, 0), 1);
    due.is("-5 from 0", seenFrom(60, 13, 0, 0, 0, 0), 0);
  }

  /** RADIUS 60 at PHASE 47, 0 and 1: (-5, 55), (0, 60), (5, 55). */
  static void p10_onlyASmallerXIsOnTheLeft(Due due) {
    due.is("0 from 0 is not", seenFrom(60, 0, 0, 0, 60, 0), 1);
    due.is("0 from 1 is", seenFrom(60, 0, 1, 1, 60, 0), 0);
    due.is("0 from -1 is not", seenFrom(60, 0, -1, 1, 60, 0), 1);
    due.is("-5 from -5 is not", seenFrom(60, 47, -5, 0, 60, 0), 1);
    due.is("-5 from -4 is", seenFrom(60, 47, -4, 0, 60, 0), 0);
    due.is("5 from 5 is not", seenFrom(60, 1, 5, 0, 0, 60), 0);
    due.is("5 from 6 is", seenFrom(60, 1, 6, 0, 0, 60), 1);
  }

  /** RADIUS 60, to the right and to the left: y is 10 and falls to 5, or is 5 and rises to 10. */
  static void p10_asTheyStandInThisEpoch(Due due) {
    int[][] rows = {{10, 1, 2, 0}, {11, -1, 0, 2}};
    for (int[] row : rows) {
      Pseudorange sky = new Pseudorange();
      sky.star(60, row[0], row[1], 0, 0);
      sky.star(60, 48 - row[0], -row[1], 0, 0);
      sky.receiver(0, 0, 0);
      due.is("now", sky.hills(0, 10, 10), row[2]);
      sky.pass(1);
      due.is("one EPOCH on", sky.hills(0, 10, 10), row[3]);
    }
  }

  static void p10_aRefusedHillChangesNeither(Due due) {
    Pseudorange sky = new Pseudorange();
    sky.star(120, 6, 0, 0, 0);
    sky.star(120, 42, 0, 0, 0);
    sky.receiver(0, 1, 0);
    due.fails(sky, ARGUMENT, "left is fine, right is not", () -> sky.hills(0, 60, 61));
    due.fails(sky, ARGUMENT, "right is fine, left is not", () -> sky.hills(0, -1, 60));
    due.is("both are seen", sky.wouldSee(0, 0), 3);
  }

  static void p10_noneAndAll(Due due) {
    due.is("without STARS", two().hills(0, 0, 0), 0);
    Pseudorange sky = Skies.most();
    due.is("8 STARS", sky.hills(0, 60, 60), 8);
    sky.health(7, false);
    due.is("one is not HEALTHY", sky.hills(0, 60, 60), 7);
  }

  // ---- promise 11

  static void p11_ionoIs0To9(Due due) {
    due.limits("iono", 0, 9, ARGUMENT, ReceiverEdgesTest::two, (sky, v) -> sky.air(0, v, false));
    due.limits("iono, DUAL", 0, 9, ARGUMENT, ReceiverEdgesTest::two, (sky, v) -> sky.air(0, v, true));
  }

  static void p11_numbersAre0To2(Due due) {
    due.limits("RECEIVER", 0, 2, INDEX, Skies::most, (sky, v) -> sky.air(v, 1, true));
    due.limits("RECEIVER of two", 0, 1, INDEX, ReceiverEdgesTest::two,
        (sky, v) -> sky.air(v, 1, true));
  }

  static void p11_noSuchReceiverIsNamedFirst(Due due) {
    Pseudorange sky = two();
    due.fails(sky, INDEX, "air(2, 10, true)", () -> sky.air(2, 10, true));
    due.fails(sky, INDEX, "air(-1, -1, false)", () -> sky.air(-1, -1, false));
  }

  static void p11_beforeIsWhatWasToldLast(Due due) {
    Pseudorange sky = two();
    due.is("at first", sky.air(0, 9, true), 0);
    due.is("9", sky.air(0, 0, false), 9);
    due.is("0", sky.air(0, 9, false), 0);
    due.fails(sky, ARGUMENT, "10", () -> sky.air(0, 10, true));
    due.is("9 still", sky.air(0, 9, true), 9);
    due.is("of the other", sky.air(1, 9, true), 0);
  }

  /** STAR 0 at (0, 60), first EPOCH: NOISE -2. */
  static void p11_aRefusedAirDoesNotTellDual(Due due) {
    Pseudorange sky = Skies.one(0);
    sky.air(0, 9, false);
    due.fails(sky, ARGUMENT, "10 and DUAL", () -> sky.air(0, 10, true));
    sky.observe(0);
    due.is("CODE with IONO 9", sky.seen(0, 0, 0), 60 + 9 - 2);
    Pseudorange dual = Skies.one(0);
    dual.air(0, 9, true);
    due.fails(dual, ARGUMENT, "10 and not DUAL", () -> dual.air(0, 10, false));
    dual.observe(0);
    due.is("CODE, as it is DUAL", dual.seen(0, 0, 0), 60 - 2);
  }

  // ---- promise 12

  static void p12_alertIs1To24(Due due) {
    due.limits("alert", 1, 24, ARGUMENT, ReceiverEdgesTest::two, (sky, v) -> sky.alert(0, v));
  }

  static void p12_numbersAre0To2(Due due) {
    due.limits("RECEIVER", 0, 2, INDEX, Skies::most, (sky, v) -> sky.alert(v, 1));
    due.limits("RECEIVER of two", 0, 1, INDEX, ReceiverEdgesTest::two, (sky, v) -> sky.alert(v, 1));
  }

  static void p12_noSuchReceiverIsNamedFirst(Due due) {
    Pseudorange sky = two();
    due.fails(sky, INDEX, "alert(2, 25)", () -> sky.alert(2, 25));
    due.fails(sky, INDEX, "alert(-1, 0)", () -> sky.alert(-1, 0));
  }

  static void p12_beforeIsWhatWasToldLast(Due due) {
    Pseudorange sky = two();
    due.is("at first", sky.alert(0, 24), 6);
    due.is("24", sky.alert(0, 1), 24);
    due.fails(sky, ARGUMENT, "0", () -> sky.alert(0, 0));
    due.fails(sky, ARGUMENT, "25", () -> sky.alert(0, 25));
    due.is("1 still", sky.alert(0, 1), 1);
    due.is("of the other", sky.alert(1, 1), 6);
  }

  // ---- promise 13

  static void p13_byIsMinus30To30(Due due) {
    due.limits("by", -30, 30, ARGUMENT, ReceiverEdgesTest::two, (sky, v) -> sky.spoof(0, v));
  }

  static void p13_numbersAre0To2(Due due) {
    due.limits("RECEIVER", 0, 2, INDEX, Skies::most, (sky, v) -> sky.spoof(v, 1));
    due.limits("RECEIVER of two", 0, 1, INDEX, ReceiverEdgesTest::two, (sky, v) -> sky.spoof(v, 1));
  }

  static void p13_noSuchReceiverIsNamedFirst(Due due) {
    Pseudorange sky = two();
    due.fails(sky, INDEX, "spoof(2, 31)", () -> sky.spoof(2, 31));
    due.fails(sky, INDEX, "spoof(-1, -31)", () -> sky.spoof(-1, -31));
  }

  static void p13_beforeIsWhatWasToldLast(Due due) {
    Pseudorange sky = two();
    due.is("at first", sky.spoof(0, 30), 0);
    due.is("30", sky.spoof(0, -30), 30);
    due.fails(sky, ARGUMENT, "31", () -> sky.spoof(0, 31));
    due.fails(sky, ARGUMENT, "-31", () -> sky.spoof(0, -31));
    due.is("-30 still", sky.spoof(0, 0), -30);
    due.is("0", sky.spoof(0, 0), 0);
    due.is("of the other", sky.spoof(1, 0), 0);
  }

  // ---- promise 14

  static void p14_referenceIsNoneOrAReceiver(Due due) {
    due.limits("REFERENCE", -1, 2, INDEX, Skies::most, (sky, v) -> sky.refer(0, v == 0 ? 1 : v));
    due.limits("REFERENCE of two", -1, 1, INDEX, ReceiverEdgesTest::two,
        (sky, v) -> sky.refer(0, v == 0 ? 1 : v));
    due.is("0", Skies.most().refer(2, 0), -1);
  }

  static void p14_aReferenceIsMadeFirst(Due due) {
    Pseudorange sky = two();
    due.fails(sky, INDEX, "not made yet", () -> sky.refer(0, 2));
    sky.receiver(0, 0, 0);
    due.is("made", sky.refer(0, 2), -1);
  }

  static void p14_numbersAre0To2(Due due) {
    due.limits("RECEIVER", 0, 2, INDEX, Skies::most, (sky, v) -> sky.refer(v, -1));
    due.limits("RECEIVER of two", 0, 1, INDEX, ReceiverEdgesTest::two, (sky, v) -> sky.refer(v, -1));
  }

  static void p14_itIsNoReferenceOfItself(Due due) {
    Pseudorange sky = Skies.most();
    for (int i = 0; i < 3; i++) {
      int receiver = i;
      due.fails(sky, ARGUMENT, "refer to itself", () -> sky.refer(receiver, receiver));
      due.is("REFERENCE still", sky.refer(i, -1), -1);
    }
  }

  static void p14_noSuchNumberIsNamedFirst(Due due) {
    Pseudorange sky = two();
    due.fails(sky, INDEX, "refer(2, 2)", () -> sky.refer(2, 2));
    due.fails(sky, INDEX, "refer(-1, -1)", () -> sky.refer(-1, -1));
    due.fails(sky, INDEX, "refer(-2, -2)", () -> sky.refer(-2, -2));
    due.fails(sky, INDEX, "refer(2, 0)", () -> sky.refer(2, 0));
  }

  static void p14_beforeIsWhatWasToldLast(Due due) {
    Pseudorange sky = Skies.most();
    due.is("at first", sky.refer(0, 1), -1);
    due.is("1", sky.refer(0, 2), 1);
    due.fails(sky, ARGUMENT, "itself", () -> sky.refer(0, 0));
    due.fails(sky, INDEX, "no such one", () -> sky.refer(0, 3));
    due.is("2 still", sky.refer(0, -1), 2);
    due.is("NONE", sky.refer(0, -1), -1);
    due.is("of another", sky.refer(1, -1), -1);
  }

  static void p14_twoMayReferToEachOther(Due due) {
    Pseudorange sky = two();
    due.is("the one", sky.refer(0, 1), -1);
    due.is("the other", sky.refer(1, 0), -1);
    due.is("without STARS", sky.observe(0), 1);
    due.is("without STARS", sky.observe(1), 1);
  }

  // ---- promise 15

  static void p15_epochsAre1To48(Due due) {
    due.limits("epochs", 1, 48, ARGUMENT, () -> Skies.above(1), (sky, v) -> sky.pass(v));
    Pseudorange sky = new Pseudorange();
    due.fails(sky, ARGUMENT, "pass(0)", () -> sky.pass(0));
    due.is("EPOCH", sky.many(0), 0);
  }

  static void p15_epochIs0AtFirst(Due due) {
    Pseudorange sky = new Pseudorange();
    due.is("EPOCH", sky.many(0), 0);
    due.is("pass(1)", sky.pass(1), 1);
    due.is("pass(48)", sky.pass(48), 49);
    due.is("EPOCH", sky.many(0), 49);
  }

  private static int phaseBehind(int phase, int spin, int epochs) {
    Pseudorange sky = new Pseudorange();
    sky.star(60, phase, spin, 0, 0);
    sky.pass(epochs);
    return sky.ofStar(0, 1);
  }

  static void p15_phaseWrapsUp(Due due) {
    due.is("44 and 3", phaseBehind(44, 3, 1), 47);
    due.is("45 and 3", phaseBehind(45, 3, 1), 0);
    due.is("46 and 3", phaseBehind(46, 3, 1), 1);
    due.is("46 and 1", phaseBehind(46, 1, 1), 47);
    due.is("47 and 1", phaseBehind(47, 1, 1), 0);
    due.is("47 and 1 and 1", phaseBehind(47, 1, 2), 1);
  }

  static void p15_phaseWrapsDown(Due due) {
    due.is("4 less 3", phaseBehind(4, -3, 1), 1);
    due.is("3 less 3", phaseBehind(3, -3, 1), 0);
    due.is("2 less 3", phaseBehind(2, -3, 1), 47);
    due.is("1 less 1", phaseBehind(1, -1, 1), 0);
    due.is("0 less 1", phaseBehind(0, -1, 1), 47);
    due.is("0 less 1 less 1", phaseBehind(0, -1, 2), 46);
  }

  static void p15_phaseGoesAroundIn48(Due due) {
    for (int spin = -3; spin <= 3; spin++) {
      due.is("SPIN " + spin, phaseBehind(7, spin, 48), 7);
    }
    due.is("47 with SPIN 1", phaseBehind(7, 1, 47), 6);
    due.is("47 with SPIN -3", phaseBehind(7, -3, 47), 10);
    due.is("16 with SPIN 3", phaseBehind(7, 3, 16), 7);
  }

  /** OFFSET of a clock that is told so near to 999 (or -999), one EPOCH on. */
  private static int offsetBehind(int sign, int offset, int drift) {
    Pseudorange sky = new Pseudorange();
    sky.star(60, 0, 0, sign * 500, 0);
    int left = offset - sign * 500;
    while (left != 0) {
      int step = Math.max(-99, Math.min(99, left));
      sky.jump(0, step, drift);
      left -= step;
    }
    sky.pass(1);
    return sky.ofStar(0, 3);
  }

  static void p15_offsetIsHeldTo999(Due due) {
    due.is("995 and 3", offsetBehind(1, 995, 3), 998);
    due.is("996 and 3", offsetBehind(1, 996, 3), 999);
    due.is("997 and 3", offsetBehind(1, 997, 3), 999);
    due.is("999 and 3", offsetBehind(1, 999, 3), 999);
    due.is("999 less 1", offsetBehind(1, 999, -1), 998);
  }

  static void p15_offsetIsHeldToMinus999(Due due) {
    due.is("-995 less 3", offsetBehind(-1, -995, -3), -998);
    due.is("-996 less 3", offsetBehind(-1, -996, -3), -999);
    due.is("-997 less 3", offsetBehind(-1, -997, -3), -999);
    due.is("-999 less 3", offsetBehind(-1, -999, -3), -999);
    due.is("-999 and 1", offsetBehind(-1, -999, 1), -998);
  }

  static void p15_offsetIsHeldInOneLongPass(Due due) {
    Pseudorange sky = new Pseudorange();
    sky.star(60, 0, 0, 500, 3);
    sky.star(60, 0, 0, -500, -3);
    Skies.passOften(sky, 4);
    due.is("OFFSET", sky.ofStar(0, 3), 999);
    due.is("OFFSET", sky.ofStar(1, 3), -999);
    due.is("DRIFT", sky.ofStar(0, 4), 3);
    due.is("DRIFT", sky.ofStar(1, 4), -3);
  }

  static void p15_everyStarGoesAlsoOneThatIsNotHealthy(Due due) {
    Pseudorange sky = new Pseudorange();
    for (int i = 0; i < 8; i++) {
      sky.star(60, i, 1, 0, i % 4);
    }
    sky.health(3, false);
    sky.pass(2);
    for (int i = 0; i < 8; i++) {
      due.is("PHASE of " + i, sky.ofStar(i, 1), i + 2);
      due.is("OFFSET of " + i, sky.ofStar(i, 3), 2 * (i % 4));
    }
  }

  /** With the 512th call the object has done all that is promised. */
  static void p15_511LongPassesAndOneCallMore(Due due) {
    Pseudorange sky = new Pseudorange();
    Skies.passOften(sky, 511);
    due.is("EPOCH", sky.pass(48), 512 * 48);
  }

  static void p15_whatIsToldOfReceiversStays(Due due) {
    Pseudorange sky = two();
    sky.air(0, 9, true);
    sky.alert(0, 24);
    sky.spoof(0, -30);
    sky.refer(0, 1);
    sky.pass(48);
    due.is("IONO", sky.air(0, 0, true), 9);
    due.is("ALERT", sky.alert(0, 1), 24);
    due.is("SPOOFED", sky.spoof(0, 0), -30);
    due.is("REFERENCE", sky.refer(0, -1), 1);
    due.is("x", sky.ofReceiver(1, 0), 1);
  }
}

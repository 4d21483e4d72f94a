import java.math.BigInteger;
import java.util.ArrayList;
import java.util.List;

/** The boundary cases of promises 23 to 27: what would be, and the checksum. */
public final class WouldBeEdgesTest {
  private static final Class<IllegalArgumentException> ARGUMENT = IllegalArgumentException.class;
  private static final Class<IndexOutOfBoundsException> INDEX = IndexOutOfBoundsException.class;

  public static void main(String[] args) {
    Numbered.run(WouldBeEdgesTest.class, 23, 24, 25, 26, 27);
  }

  /** A cross whose CODES of EPOCH 0 are without NOISE. */
  private static Pseudorange quietCross(int x, int y) {
    Pseudorange sky = Skies.heardCross(x, y, 0);
    sky.alert(0, 24);
    Skies.quiet(sky, 0, 0, 1, 2, 3, 4);
    return sky;
  }

  private static Pseudorange quietAbove(int stars, int... jumps) {
    Pseudorange sky = Skies.above(stars);
    for (int star = 0; star < stars; star++) {
      Skies.quiet(sky, 0, star);
    }
    Skies.jump(sky, jumps);
    return sky;
  }

  /**
   * RADIUS 60, HILLS of 10: three STARS above, and a fourth with this SPIN that was heard at
   * (50, 10) and was pushed by so much: at 0 it is just seen, at 1 it stands at (55, 5).
   */
  private static Pseudorange fourthAtTheHill(int spin, int by) {
    Pseudorange sky = new Pseudorange();
    sky.station(50, 0);
    sky.receiver(0, 0, 0);
    sky.hills(0, 10, 10);
    sky.alert(0, 24);
    for (int star = 0; star < 3; star++) {
      sky.star(60, 0, 0, 0, 0);
      sky.listen(0, star);
    }
    sky.star(60, 10, spin, 0, 0);
    sky.listen(0, 3);
    sky.push(3, by);
    return sky;
  }

  // ---- promise 23

  static void p23_numbersAre0To2(Due due) {
    due.limits("RECEIVER", 0, 2, INDEX, Skies::most, (sky, v) -> sky.wouldSee(v, 0));
    due.limits("RECEIVER of one", 0, 0, INDEX, () -> Skies.above(1),
        (sky, v) -> sky.wouldSee(v, 0));
  }

  static void p23_epochsAre0To48(Due due) {
    due.limits("epochs", 0, 48, ARGUMENT, Skies::most, (sky, v) -> sky.wouldSee(0, v));
  }

  static void p23_noSuchReceiverIsNamedFirst(Due due) {
    Pseudorange sky = Skies.above(1);
    due.fails(sky, INDEX, "wouldSee(1, 49)", () -> sky.wouldSee(1, 49));
    due.fails(sky, INDEX, "wouldSee(-1, -1)", () -> sky.wouldSee(-1, -1));
  }

  static void p23_noneAndAll(Due due) {
    Pseudorange none = new Pseudorange();
    none.receiver(0, 0, 0);
    due.is("without STARS", none.wouldSee(0, 0), 0);
    due.is("without STARS", none.wouldSee(0, 48), 0);
    Pseudorange sky = Skies.most();
    due.is("all 8", sky.wouldSee(0, 0), 255);
    for (int star = 0; star < 8; star++) {
      sky.health(star, false);
      due.is("all but " + star, sky.wouldSee(0, 48), 255 - (1 << star));
      sky.health(star, true);
    }
  }

  /** RADIUS 60: (50, 10) and one PHASE lower (55, 5), (60, 0), (55, -5). */
  static void p23_noLessThanTheHillInSomeEpochs(Due due) {
    int[][] sees = {{10, 1, 0, 0, 0}, {5, 1, 1, 0, 0}, {0, 1, 1, 1, 0}};
    for (int[] row : sees) {
      Pseudorange sky = new Pseudorange();
      sky.star(60, 10, 1, 0, 0);
      sky.star(60, 38, -1, 0, 0);
      sky.receiver(0, 0, 0);
      sky.hills(0, row[0], row[0]);
      for (int epochs = 0; epochs < 4; epochs++) {
        due.is("HILL " + row[0] + " in " + epochs, sky.wouldSee(0, epochs), 3 * row[epochs + 1]);
      }
    }
  }

  /** RADIUS 60: (-5, 55), (0, 60), (5, 55); the HILL to the left hides nothing, to the right all. */
  static void p23_theHillOnTheSideOfThen(Due due) {
    Pseudorange sky = new Pseudorange();
    sky.star(60, 47, 1, 0, 0);
    sky.star(60, 1, -1, 0, 0);
    sky.receiver(0, 12, 0);
    sky.hills(0, 0, 60);
    int[] sees = {1, 0, 2};
    for (int epochs = 0; epochs < sees.length; epochs++) {
      due.is("in " + epochs, sky.wouldSee(0, epochs), sees[epochs]);
    }
  }

  /** At PHASE 44 to 4 the STAR is high enough for 60 and 20 more, with RADIUS 120. */
  static void p23_phaseWrapsInSomeEpochs(Due due) {
    int[] spins = {3, -3};
    int[] phases = {30, 18};
    int[] sees = {0, 0, 0, 0, 1, 1, 1, 1, 1, 0, 0, 0, 0};
    for (int i = 0; i < spins.length; i++) {
      Pseudorange sky = new Pseudorange();
      sky.star(120, phases[i], spins[i], 0, 0);
      sky.receiver(0, 0, 0);
      sky.hills(0, 60, 60);
      for (int epochs = 0; epochs < sees.length; epochs++) {
        due.is("in " + epochs, sky.wouldSee(0, epochs), sees[epochs]);
      }
    }
  }

  static void p23_in48AsNow(Due due) {
    for (int spin = -3; spin <= 3; spin++) {
      Pseudorange sky = new Pseudorange();
      sky.star(120, 11, spin, 0, 0);
      sky.star(120, 13, spin, 0, 0);
      sky.receiver(0, 0, 0);
      due.is("now", sky.wouldSee(0, 0), 1);
      due.is("in 48", sky.wouldSee(0, 48), 1);
    }
  }

  // ---- promise 24

  static void p24_starsAre0To7(Due due) {
    due.limits("STAR", 0, 7, INDEX, Skies::most, (sky, v) -> sky.heardIn(v, 0));
    due.limits("STAR of two", 0, 1, INDEX, () -> Skies.above(2), (sky, v) -> sky.heardIn(v, 0));
  }

  static void p24_stationsAre0To2(Due due) {
    due.limits("STATION", 0, 2, INDEX, Skies::most, (sky, v) -> sky.heardIn(0, v));
    due.limits("STATION of one", 0, 0, INDEX, () -> Skies.above(2), (sky, v) -> sky.heardIn(0, v));
  }

  private static int heardIn(int radius, int phase, int spin, int x) {
    Pseudorange sky = new Pseudorange();
    sky.star(radius, phase, spin, 0, 0);
    sky.station(x, 0);
    return sky.heardIn(0, 0);
  }

  /** RADIUS 60 falls back to (55, 5), which 50 does not hear, and (50, 10), which it does. */
  static void p24_whenItsYIs10(Due due) {
    due.is("from (60, 0)", heardIn(60, 12, -1, 50), 2);
    due.is("from (55, 5)", heardIn(60, 11, -1, 50), 1);
    due.is("from (50, 10)", heardIn(60, 10, -1, 50), 0);
    due.is("from (-60, 0)", heardIn(60, 36, 1, -50), 2);
    due.is("from (-50, 10)", heardIn(60, 38, 1, -50), 0);
  }

  /** (90, 30) is 60 from 30 and 61 from 29; (80, 40) is near enough to both. */
  static void p24_whenItIsNoFartherThanTwiceItsY(Due due) {
    due.is("from 30", heardIn(120, 12, -1, 30), 3);
    due.is("from 29", heardIn(120, 12, -1, 29), 4);
    due.is("from -30", heardIn(120, 36, 1, -30), 3);
    due.is("from -29", heardIn(120, 36, 1, -29), 4);
    due.is("now from 30", heardIn(120, 9, -1, 30), 0);
    due.is("in 1 from 29", heardIn(120, 9, -1, 29), 1);
  }

  static void p24_neverIfItStandsStillTooLow(Due due) {
    due.is("below", heardIn(60, 24, 0, 0), -1);
    due.is("just too low", heardIn(60, 11, 0, 50), -1);
    due.is("just high enough", heardIn(60, 10, 0, 50), 0);
    due.is("just too far", heardIn(120, 9, 0, 29), -1);
    due.is("just near enough", heardIn(120, 9, 0, 30), 0);
  }

  static void p24_neverIfItIsNotHealthy(Due due) {
    Pseudorange sky = Skies.heardFrom(0, 60, 0);
    due.is("HEALTHY", sky.heardIn(0, 0), 0);
    sky.health(0, false);
    due.is("not HEALTHY", sky.heardIn(0, 0), -1);
    sky.health(0, true);
    due.is("HEALTHY again", sky.heardIn(0, 0), 0);
  }

  /** From 50 a RADIUS of 60 is heard at PHASE 44 to 10, and so 33 EPOCHS behind 11. */
  static void p24_nearlyOnceAround(Due due) {
    due.is("on and on", heardIn(60, 11, 1, 50), 33);
    due.is("back and back", heardIn(60, 43, -1, 50), 33);
    due.is("one ahead of that", heardIn(60, 10, 1, 50), 0);
    due.is("one ahead of that", heardIn(60, 44, -1, 50), 0);
    due.is("on by 3", heardIn(60, 11, 3, 50), 11);
    due.is("back by 2", heardIn(60, 43, -2, 50), 17);
  }

  /** STAR 1 wraps from 47 to 0 and is then seen by its other side. */
  static void p24_phaseWraps(Due due) {
    due.is("from 24 on", heardIn(120, 24, 1, 0), 16);
    due.is("from 24 back", heardIn(120, 24, -1, 0), 16);
    due.is("to 0 and beyond from 39", heardIn(60, 43, 1, 50), 1);
    due.is("over 47 by 3", heardIn(60, 42, 3, 50), 1);
  }

  // ---- promise 25

  static void p25_receiversAre0To2(Due due) {
    due.limits("RECEIVER", 0, 2, INDEX, Skies::most, (sky, v) -> sky.without(v, 0));
    due.limits("RECEIVER of one", 0, 0, INDEX, () -> Skies.above(2), (sky, v) -> sky.without(v, 0));
  }

  static void p25_starsAre0To7(Due due) {
    due.limits("STAR", 0, 7, INDEX, Skies::most, (sky, v) -> sky.without(0, v));
    due.limits("STAR of two", 0, 1, INDEX, () -> Skies.above(2), (sky, v) -> sky.without(0, v));
  }

  static void p25_noneIfLessThan3WouldBeUsed(Due due) {
    int[] want = {-1, -1, -1, 0, 0};
    for (int stars = 1; stars <= 5; stars++) {
      due.is("one of " + stars, Skies.above(stars).without(0, 0), want[stars - 1]);
      due.is("the last of " + stars, Skies.above(stars).without(0, stars - 1), want[stars - 1]);
    }
  }

  static void p25_oneThatWouldNotBeUsedMayBeLeftOut(Due due) {
    Pseudorange sky = Skies.above(3);
    sky.star(120, 0, 0, 0, 0);
    due.is("without a MESSAGE", sky.without(0, 3), 0);
    due.is("one that would be", sky.without(0, 0), -1);
    sky.listen(0, 3);
    due.is("one that would be, of four", sky.without(0, 0), 0);
    sky.health(3, false);
    due.is("not seen", sky.without(0, 3), 0);
    due.is("one that would be", sky.without(0, 0), -1);
  }

  static void p25_messagesThatHoldFor12(Due due) {
    Pseudorange sky = Skies.above(4);
    sky.pass(12);
    due.is("behind 12", sky.without(0, 0), 0);
    sky.pass(1);
    due.is("behind 13", sky.without(0, 0), -1);
  }

  /** STAR 3 tells nothing that 0 and 4 do not. */
  static void p25_solutionInTheCorners(Due due) {
    due.is("least x, least y", quietCross(-12, 0).without(0, 3), 0);
    due.is("least x, greatest y", quietCross(-12, 12).without(0, 3), 12);
    due.is("greatest x, least y", quietCross(12, 0).without(0, 3), 2400);
    due.is("greatest x, greatest y", quietCross(12, 12).without(0, 3), 2412);
    due.is("between", quietCross(0, 7).without(0, 3), 1207);
  }

  /** Without STAR 1 or 2 it goes down the diagonal. */
  static void p25_withoutOneThatTellsTheSide(Due due) {
    due.is("without 1", quietCross(3, 5).without(0, 1), 2000);
    due.is("without 2", quietCross(3, 5).without(0, 2), 1000);
    due.is("without 0", quietCross(3, 5).without(0, 0), 1505);
  }

  static void p25_asTheyStandInThisEpoch(Due due) {
    Pseudorange falling = fourthAtTheHill(1, 0);
    due.is("three are left", falling.without(0, 0) == -1, false);
    falling.pass(1);
    due.is("two are left", falling.without(0, 0), -1);
    Pseudorange rising = fourthAtTheHill(-1, 1);
    due.is("two are left", rising.without(0, 0), -1);
    rising.pass(1);
    due.is("three are left", rising.without(0, 0) == -1, false);
  }

  static void p25_alsoIfItDidObserveInThisEpoch(Due due) {
    Pseudorange sky = quietCross(3, 5);
    due.is("ahead of it", sky.without(0, 1), 2000);
    due.is("observe", sky.observe(0), 0);
    due.is("behind it", sky.without(0, 1), 2000);
    sky.go(0, 3, 4);
    due.is("from where it is now", sky.without(0, 1), 1900);
    due.is("its SOLUTION stays", 100 * sky.ofReceiver(0, 5) + sky.ofReceiver(0, 6), 305);
  }

  /** As the STARS are FIXED the clocks of this EPOCH, which are told without NOISE, are too much. */
  static void p25_asIfNoneWasFixed(Due due) {
    Pseudorange sky = Skies.heardCross(3, 5, 0);
    sky.alert(0, 24);
    Skies.observeThrice(sky, 0);
    Skies.quiet(sky, 0, 0, 1, 2, 3, 4);
    due.is("FIXED", sky.seen(0, 0, 5), 1);
    due.is("without 3", sky.without(0, 3), 1505);
    due.is("without 1", sky.without(0, 1), 2000);
    due.is("it still is", sky.seen(0, 0, 5), 1);
  }

  // ---- promise 26

  static void p26_numbersAre0To2(Due due) {
    due.limits("RECEIVER", 0, 2, INDEX, Skies::most, (sky, v) -> sky.wouldAlarm(v));
    due.limits("RECEIVER of one", 0, 0, INDEX, () -> Skies.above(1), (sky, v) -> sky.wouldAlarm(v));
  }

  static void p26_alarm1IfLessThan4WouldBeUsed(Due due) {
    int[] alarm = {1, 1, 1, 1, 0, 0, 0, 0, 0};
    for (int stars = 0; stars <= 8; stars++) {
      due.is("of " + stars, Skies.above(stars).wouldAlarm(0), alarm[stars]);
    }
  }

  static void p26_asTheyStandInThisEpoch(Due due) {
    Pseudorange falling = fourthAtTheHill(1, 0);
    due.is("of 4", falling.wouldAlarm(0) == 1, false);
    falling.pass(1);
    due.is("of 3", falling.wouldAlarm(0), 1);
    Pseudorange rising = fourthAtTheHill(-1, 1);
    due.is("of 3", rising.wouldAlarm(0), 1);
    rising.pass(1);
    due.is("of 4", rising.wouldAlarm(0) == 1, false);
  }

  static void p26_messagesThatHoldFor12(Due due) {
    Pseudorange sky = Skies.above(4);
    sky.pass(12);
    due.is("behind 12", sky.wouldAlarm(0), 0);
    sky.pass(1);
    due.is("behind 13", sky.wouldAlarm(0), 1);
  }

  /** Weights of 2: 2 times 36, 36, 4, 4 are 160; 36, 36, 9 are 162. */
  static void p26_alarm2IfTheCostWouldBeAbove40TimesThoseUsed(Due due) {
    due.is("160 of 4", quietAbove(4, 6, -6, 2, -2).wouldAlarm(0), 0);
    due.is("162 of 4", quietAbove(4, 6, -6, 3).wouldAlarm(0), 2);
    due.is("200 of 5", quietAbove(5, 7, -7, 1, -1).wouldAlarm(0), 0);
    due.is("202 of 5", quietAbove(5, 7, -7, 1, -1, 1).wouldAlarm(0), 2);
  }

  static void p26_alarm3IfTheLevelWouldBeAboveAlert(Due due) {
    int[] alarm = {3, 3, 0, 0};
    for (int alert = 1; alert <= 4; alert++) {
      Pseudorange sky = Skies.above(4);
      sky.alert(0, alert);
      due.is("LEVEL 3 and ALERT " + alert, sky.wouldAlarm(0), alarm[alert - 1]);
    }
    Pseudorange sky = quietCross(0, 5);
    sky.alert(0, 8);
    due.is("LEVEL 8 and ALERT 8", sky.wouldAlarm(0), 0);
    sky.alert(0, 7);
    due.is("LEVEL 8 and ALERT 7", sky.wouldAlarm(0), 3);
  }

  static void p26_theFirstOneCounts(Due due) {
    Pseudorange sky = quietAbove(4, 6, -6, 3);
    sky.alert(0, 2);
    due.is("2 is ahead of 3", sky.wouldAlarm(0), 2);
    sky.health(0, false);
    due.is("1 is ahead of 2 and 3", sky.wouldAlarm(0), 1);
  }

  static void p26_withoutTheAlarm4(Due due) {
    Pseudorange sky = Skies.heardCross(-12, 0, 0);
    sky.alert(0, 24);
    Skies.observeThrice(sky, 0);
    sky.pass(1);
    sky.go(0, 12, 0);
    due.is("what would be", sky.wouldAlarm(0), 0);
    due.is("what is", sky.observe(0), 4);
    due.is("what would be", sky.wouldAlarm(0), 0);
  }

  /** All are FIXED; the clocks tell what makes up for the NOISE of now, and 162 more. */
  static void p26_asIfNoneWasFixed(Due due) {
    Pseudorange sky = Skies.above(4);
    Skies.observeThrice(sky, 0);
    Skies.quiet(sky, 0, 0, 1, 2, 3);
    Skies.jump(sky, 6, -6, 2, -2);
    due.is("160", sky.wouldAlarm(0), 0);
    Skies.jump(sky, 0, 0, 1, 2);
    due.is("162", sky.wouldAlarm(0), 2);
  }

  /** STARS 1 and 3 are 90 off, which the REFERENCE at the same place takes away. */
  static void p26_correctionIsNoMoreThan5EpochsOld(Due due) {
    Pseudorange sky = Skies.heardCross(3, 5, 0);
    sky.receiver(3, 5, 9);
    sky.alert(1, 24);
    Skies.jump(sky, 0, 90, 0, -90);
    sky.refer(1, 0);
    due.is("ahead of its OBSERVATION", sky.wouldAlarm(1), 2);
    sky.observe(0);
    due.is("in the same EPOCH", sky.wouldAlarm(1), 0);
    sky.pass(5);
    due.is("5 EPOCHS ago", sky.wouldAlarm(1), 0);
    sky.pass(1);
    due.is("6 EPOCHS ago", sky.wouldAlarm(1), 2);
  }

  static void p26_nothingIsObserved(Due due) {
    Pseudorange sky = Skies.above(3);
    due.is("wouldAlarm", sky.wouldAlarm(0), 1);
    due.is("OBSERVATIONS", sky.many(7), 0);
    due.is("latest ALARM", sky.ofReceiver(0, 12), -1);
    due.is("it may observe", sky.observe(0), 1);
    Skies.passAndObserve(sky, 0);
    due.is("KEPT", sky.seen(0, 0, 4), 2);
  }

  // ---- promise 27

  private static long asDue(Pseudorange sky) {
    List<Integer> all = new ArrayList<>();
    for (int what = 0; what <= 8; what++) {
      all.add(sky.many(what));
    }
    for (int star = 0; star < sky.many(1); star++) {
      for (int what = 0; what <= 7; what++) {
        all.add(sky.ofStar(star, what));
      }
      for (int what = 0; what <= 7; what++) {
        all.add(sky.message(star, what));
      }
      for (int station = 0; station < sky.many(2); station++) {
        all.add(sky.heardIn(star, station));
      }
    }
    for (int receiver = 0; receiver < sky.many(3); receiver++) {
      for (int what = 0; what <= 13; what++) {
        all.add(sky.ofReceiver(receiver, what));
      }
      for (int star = 0; star < sky.many(1); star++) {
        for (int what = 0; what <= 7; what++) {
          all.add(sky.seen(receiver, star, what));
        }
      }
      all.add(sky.wouldSee(receiver, 6));
    }
    if (sky.many(3) > 0) {
      all.add(sky.wouldAlarm(0));
    }
    return wrapped(all);
  }

  /** Without any wrap on the way; only the end is cut to 64 bits. */
  private static long wrapped(List<Integer> all) {
    BigInteger d = BigInteger.valueOf(58189);
    for (int v : all) {
      d = d.multiply(BigInteger.valueOf(31)).add(BigInteger.valueOf(v));
    }
    return d.longValue();
  }

  static void p27_ofANewObject(Due due) {
    // 58189 times 31 to the power of 9
    due.is("digest", new Pseudorange().digest(), 58189L * 26439622160671L);
  }

  static void p27_ofOneThingAlone(Due due) {
    Pseudorange star = new Pseudorange();
    star.star(200, 47, -3, -500, -3);
    due.is("a STAR", star.digest(), asDue(star));
    Pseudorange station = new Pseudorange();
    station.station(50, 9);
    due.is("a STATION", station.digest(), asDue(station));
    Pseudorange receiver = new Pseudorange();
    receiver.receiver(-12, 12, -99);
    due.is("a RECEIVER", receiver.digest(), asDue(receiver));
  }

  /** Two RECEIVERS with different alarms: only that of the first one counts. */
  static void p27_onlyTheAlarmOfTheFirstReceiver(Due due) {
    Pseudorange sky = Skies.above(4);
    sky.receiver(0, 0, 0);
    sky.alert(1, 1);
    due.is("of 0", sky.wouldAlarm(0), 0);
    due.is("of 1", sky.wouldAlarm(1), 3);
    due.is("digest", sky.digest(), asDue(sky));
    sky.alert(0, 1);
    sky.alert(1, 6);
    due.is("digest", sky.digest(), asDue(sky));
  }

  static void p27_asManyAsCanBe(Due due) {
    Pseudorange sky = Skies.most();
    due.is("ahead of all", sky.digest(), asDue(sky));
    Pseudorange used = Skies.most();
    for (int receiver = 0; receiver < 3; receiver++) {
      used.observe(receiver);
    }
    due.is("with OBSERVATIONS", used.digest(), asDue(used));
  }

  static void p27_numbersBelow0(Due due) {
    Pseudorange sky = new Pseudorange();
    sky.star(200, 25, -3, -500, -3);
    sky.receiver(-12, 0, -99);
    sky.receiver(-12, 0, -99);
    sky.star(200, 36, 1, -500, -3);
    sky.pass(20);
    sky.observe(0);
    due.is("digest", sky.digest(), asDue(sky));
  }

  /** RADIUS 60: heard in 16, 33 and never; behind HILLS of 10 seen from the sixth EPOCH on. */
  static void p27_whatWillBe(Due due) {
    Pseudorange sky = new Pseudorange();
    sky.star(120, 24, 1, 0, 0);
    sky.star(60, 11, 1, 0, 0);
    sky.star(60, 24, 0, 0, 0);
    sky.star(60, 16, -1, 0, 0);
    sky.star(60, 5, 1, 0, 0);
    sky.station(0, 0);
    sky.station(50, 0);
    sky.receiver(0, 0, 0);
    sky.hills(0, 10, 10);
    due.is("in 5", sky.wouldSee(0, 5), 16);
    due.is("in 6", sky.wouldSee(0, 6), 8);
    due.is("in 7", sky.wouldSee(0, 7), 8);
    due.is("digest", sky.digest(), asDue(sky));
    Pseudorange seventh = new Pseudorange();
    seventh.star(60, 17, -1, 0, 0);
    seventh.receiver(0, 0, 0);
    seventh.hills(0, 10, 10);
    due.is("in 6", seventh.wouldSee(0, 6), 0);
    due.is("in 7", seventh.wouldSee(0, 7), 1);
    due.is("digest", seventh.digest(), asDue(seventh));
  }

  static void p27_itChangesNothing(Due due) {
    Pseudorange sky = Skies.most();
    sky.observe(0);
    long first = sky.digest();
    due.is("digest again", sky.digest(), first);
    sky.pass(1);
    sky.observe(0);
    due.is("KEPT", sky.seen(0, 0, 4), 2);
  }
}

import java.util.ArrayList;
import java.util.List;

/**
 * Refused calls and questions change nothing: of two skies that go the same way one gets such calls
 * between all steps, and still both answer the same to the end.
 */
public final class NothingChangedTest {
  private static final int CALLS_BETWEEN = 3;

  private interface Step {
    Object of(Pseudorange sky);
  }

  public static void main(String[] args) {
    Numbered.run(NothingChangedTest.class, 2, 3, 4, 5, 6, 7, 8, 9, 10, 11, 12, 13, 14, 15, 16, 17,
        18, 19, 20, 21, 22, 23, 24, 25, 26, 27);
  }

  // ---- the way that both go

  /** 8 STARS, 3 STATIONS and 3 RECEIVERS; STAR 6 is under the ground. */
  private static Pseudorange start() {
    Pseudorange sky = new Pseudorange();
    sky.star(120, 0, 0, 0, 0);
    sky.star(120, 9, 0, 3, 1);
    sky.star(120, 39, 0, -4, -1);
    sky.star(120, 3, 1, 10, 2);
    sky.star(120, 45, -1, 0, 0);
    sky.star(90, 6, 0, 50, 0);
    sky.star(120, 24, 0, 0, 0);
    sky.star(150, 42, 0, -20, 1);
    sky.station(50, 0);
    sky.station(-50, 2);
    sky.station(0, 9);
    sky.receiver(0, 0, 0);
    sky.receiver(3, 4, 5);
    sky.receiver(-3, 2, 40);
    return sky;
  }

  private static List<Step> steps() {
    List<Step> steps = new ArrayList<>();
    int[] heard = {0, 1, 3, 5};
    for (int star : heard) {
      steps.add(sky -> sky.listen(0, star));
    }
    steps.add(sky -> sky.listen(1, 2));
    steps.add(sky -> sky.listen(1, 4));
    steps.add(sky -> sky.alert(0, 24));
    steps.add(sky -> sky.refer(1, 0));
    steps.add(sky -> sky.refer(2, 1));
    steps.add(sky -> sky.air(1, 7, false));
    steps.add(sky -> sky.air(2, 1, false));
    for (int i = 0; i < 4; i++) {
      steps.add(sky -> sky.observe(0));
      steps.add(sky -> sky.observe(1));
      steps.add(sky -> sky.observe(2));
      steps.add(sky -> sky.pass(1));
    }
    steps.add(sky -> sky.spoof(0, 3));
    steps.add(sky -> sky.hills(1, 20, 31));
    steps.add(sky -> sky.go(0, 6, 3));
    steps.add(sky -> sky.jump(5, -7, 3));
    steps.add(sky -> sky.push(7, 5));
    steps.add(sky -> sky.health(1, false));
    steps.add(sky -> sky.listen(2, 3));
    steps.add(sky -> sky.observe(0));
    steps.add(sky -> sky.observe(1));
    steps.add(sky -> sky.pass(9));
    steps.add(sky -> sky.listen(2, 7));
    steps.add(sky -> sky.observe(2));
    steps.add(sky -> sky.pass(1));
    return steps;
  }

  private static Object answer(Pseudorange sky, Step step) {
    try {
      return step.of(sky);
    } catch (RuntimeException e) {
      return e.getClass();
    }
  }

  /** What can be asked, and what the calls that tell something answer was told before. */
  private static void sameAtTheEnd(Due due, Pseudorange one, Pseudorange other) {
    List<Step> asked = new ArrayList<>();
    asked.add(Pseudorange::digest);
    for (int i = 0; i < 3; i++) {
      int receiver = i;
      asked.add(sky -> sky.meanError(receiver));
      asked.add(sky -> sky.wouldAlarm(receiver));
      asked.add(sky -> sky.without(receiver, 0));
      asked.add(sky -> sky.without(receiver, 7));
      asked.add(sky -> sky.observe(receiver));
      asked.add(sky -> sky.alert(receiver, 1));
      asked.add(sky -> sky.spoof(receiver, 0));
      asked.add(sky -> sky.refer(receiver, -1));
      asked.add(sky -> sky.air(receiver, 0, false));
      asked.add(sky -> sky.wouldSee(receiver, 1));
    }
    asked.add(Pseudorange::digest);
    for (int i = 0; i < asked.size(); i++) {
      Object got = answer(one, asked.get(i));
      Object want = answer(other, asked.get(i));
      due.is("question " + i + " answered " + got + " for " + want, got.equals(want), true);
    }
  }

  private static void twins(Due due, boolean isRefused, Step... calls) {
    Pseudorange one = start();
    Pseudorange other = start();
    List<Step> steps = steps();
    int next = 0;
    for (int i = 0; i < steps.size(); i++) {
      for (int n = 0; n < Math.min(CALLS_BETWEEN, calls.length); n++) {
        boolean threw = answer(one, calls[next % calls.length]) instanceof Class;
        due.is("call " + next % calls.length + " is refused", threw, isRefused);
        next++;
      }
      Object got = answer(one, steps.get(i));
      Object want = answer(other, steps.get(i));
      due.is("step " + i + " answered " + got + " for " + want, got.equals(want), true);
      due.is("digest behind step " + i, one.digest(), other.digest());
    }
    sameAtTheEnd(due, one, other);
  }

  private static void refused(Due due, Step... calls) {
    twins(due, true, calls);
  }

  private static void asked(Due due, Step... calls) {
    twins(due, false, calls);
  }

  // ---- stars and stations

  static void p02_aRefusedStar(Due due) {
    refused(due, sky -> sky.star(60, 0, 0, 0, 0), sky -> sky.star(59, 0, 0, 0, 0),
        sky -> sky.star(60, 48, 0, 0, 0), sky -> sky.star(60, 0, 4, 0, 0),
        sky -> sky.star(60, 0, 0, -501, 0), sky -> sky.star(60, 0, 0, 0, -4));
  }

  static void p03_aRefusedPush(Due due) {
    refused(due, sky -> sky.push(0, 6), sky -> sky.push(7, -6), sky -> sky.push(8, 1),
        sky -> sky.push(-1, 1), sky -> sky.push(3, 48), sky -> sky.push(1, -48));
  }

  static void p04_aRefusedJump(Due due) {
    refused(due, sky -> sky.jump(0, 100, 1), sky -> sky.jump(1, -100, 1),
        sky -> sky.jump(2, 5, 4), sky -> sky.jump(3, 5, -4), sky -> sky.jump(8, 5, 1),
        sky -> sky.jump(-1, 5, 1));
  }

  static void p05_aRefusedHealth(Due due) {
    refused(due, sky -> sky.health(8, false), sky -> sky.health(-1, false));
  }

  static void p06_aRefusedStation(Due due) {
    refused(due, sky -> sky.station(0, 0), sky -> sky.station(51, 0), sky -> sky.station(-51, 0),
        sky -> sky.station(0, 10), sky -> sky.station(0, -1));
  }

  static void p07_aRefusedListen(Due due) {
    refused(due, sky -> sky.listen(0, 6), sky -> sky.listen(1, 6), sky -> sky.listen(3, 0),
        sky -> sky.listen(-1, 0), sky -> sky.listen(0, 8), sky -> sky.listen(2, -1));
  }

  // ---- receivers

  static void p08_aRefusedReceiver(Due due) {
    refused(due, sky -> sky.receiver(1, 1, 1), sky -> sky.receiver(13, 1, 1),
        sky -> sky.receiver(1, 13, 1), sky -> sky.receiver(1, 1, 100));
  }

  static void p09_aRefusedWay(Due due) {
    refused(due, sky -> sky.go(0, 13, 5), sky -> sky.go(1, -13, 5), sky -> sky.go(2, 5, 13),
        sky -> sky.go(0, 5, -1), sky -> sky.go(3, 5, 5), sky -> sky.go(-1, 5, 5));
  }

  static void p10_refusedHills(Due due) {
    refused(due, sky -> sky.hills(0, 61, 60), sky -> sky.hills(1, 60, 61),
        sky -> sky.hills(2, -1, 60), sky -> sky.hills(0, 60, -1), sky -> sky.hills(3, 60, 60),
        sky -> sky.hills(-1, 60, 60));
  }

  static void p11_refusedAir(Due due) {
    refused(due, sky -> sky.air(1, 10, true), sky -> sky.air(2, -1, true),
        sky -> sky.air(0, 10, false), sky -> sky.air(3, 9, true), sky -> sky.air(-1, 9, true));
  }

  static void p12_aRefusedAlert(Due due) {
    refused(due, sky -> sky.alert(0, 0), sky -> sky.alert(1, 25), sky -> sky.alert(3, 1),
        sky -> sky.alert(-1, 1));
  }

  static void p13_aRefusedSpoof(Due due) {
    refused(due, sky -> sky.spoof(0, 31), sky -> sky.spoof(1, -31), sky -> sky.spoof(3, 9),
        sky -> sky.spoof(-1, 9));
  }

  static void p14_aRefusedReference(Due due) {
    refused(due, sky -> sky.refer(0, 0), sky -> sky.refer(1, 1), sky -> sky.refer(2, 2),
        sky -> sky.refer(1, 3), sky -> sky.refer(2, -2), sky -> sky.refer(3, 0),
        sky -> sky.refer(-1, 0));
  }

  static void p15_aRefusedPass(Due due) {
    refused(due, sky -> sky.pass(0), sky -> sky.pass(49), sky -> sky.pass(-1));
  }

  static void p16_aRefusedObservation(Due due) {
    refused(due, sky -> sky.observe(3), sky -> sky.observe(-1));
  }

  /** Each RECEIVER observes twice in every EPOCH; the second time it is refused. */
  static void p16_anObservationRefusedInTheSameEpoch(Due due) {
    Pseudorange one = start();
    Pseudorange other = start();
    for (Step step : steps()) {
      int epoch = one.many(0);
      for (int receiver = 0; receiver < 3; receiver++) {
        if (one.ofReceiver(receiver, 3) == epoch) {
          int again = receiver;
          Object got = answer(one, sky -> sky.observe(again));
          due.is("refused", got == IllegalStateException.class, true);
        }
      }
      due.is("the same answer", answer(one, step).equals(answer(other, step)), true);
      due.is("digest", one.digest(), other.digest());
    }
    sameAtTheEnd(due, one, other);
  }

  // ---- what is asked, and what would be

  static void p17_askedOfAStar(Due due) {
    asked(due, sky -> sky.ofStar(0, 0), sky -> sky.ofStar(7, 7), sky -> sky.ofStar(3, 6));
    refused(due, sky -> sky.ofStar(8, 0), sky -> sky.ofStar(0, 8), sky -> sky.ofStar(0, -1));
  }

  static void p18_askedOfAMessage(Due due) {
    asked(due, sky -> sky.message(0, 0), sky -> sky.message(3, 6), sky -> sky.message(7, 7));
    refused(due, sky -> sky.message(8, 0), sky -> sky.message(0, 8), sky -> sky.message(0, -1));
  }

  static void p19_askedWhatWasSeen(Due due) {
    asked(due, sky -> sky.seen(0, 0, 0), sky -> sky.seen(1, 3, 7), sky -> sky.seen(2, 6, 5));
    refused(due, sky -> sky.seen(3, 0, 0), sky -> sky.seen(0, 8, 0), sky -> sky.seen(0, 0, 8));
  }

  static void p20_askedOfAReceiver(Due due) {
    asked(due, sky -> sky.ofReceiver(0, 2), sky -> sky.ofReceiver(1, 13),
        sky -> sky.ofReceiver(2, 12));
    refused(due, sky -> sky.ofReceiver(3, 0), sky -> sky.ofReceiver(0, 14),
        sky -> sky.ofReceiver(0, -1));
  }

  static void p21_askedHowMany(Due due) {
    asked(due, sky -> sky.many(0), sky -> sky.many(5), sky -> sky.many(8));
    refused(due, sky -> sky.many(-1), sky -> sky.many(9));
  }

  static void p22_askedForTheMeanError(Due due) {
    asked(due, sky -> sky.meanError(0), sky -> sky.meanError(1), sky -> sky.meanError(2));
    refused(due, sky -> sky.meanError(3), sky -> sky.meanError(-1));
  }

  static void p23_askedWhatWouldBeSeen(Due due) {
    asked(due, sky -> sky.wouldSee(0, 0), sky -> sky.wouldSee(1, 48), sky -> sky.wouldSee(2, 7));
    refused(due, sky -> sky.wouldSee(3, 0), sky -> sky.wouldSee(0, 49), sky -> sky.wouldSee(0, -1));
  }

  static void p24_askedWhenItIsHeard(Due due) {
    asked(due, sky -> sky.heardIn(0, 0), sky -> sky.heardIn(6, 1), sky -> sky.heardIn(3, 2));
    refused(due, sky -> sky.heardIn(8, 0), sky -> sky.heardIn(0, 3), sky -> sky.heardIn(-1, -1));
  }

  static void p25_askedForASolutionWithoutOne(Due due) {
    asked(due, sky -> sky.without(0, 0), sky -> sky.without(1, 3), sky -> sky.without(2, 6));
    refused(due, sky -> sky.without(3, 0), sky -> sky.without(0, 8), sky -> sky.without(-1, -1));
  }

  static void p26_askedForTheAlarm(Due due) {
    asked(due, sky -> sky.wouldAlarm(0), sky -> sky.wouldAlarm(1), sky -> sky.wouldAlarm(2));
    refused(due, sky -> sky.wouldAlarm(3), sky -> sky.wouldAlarm(-1));
  }

  static void p27_askedForTheDigest(Due due) {
    asked(due, Pseudorange::digest);
  }
}

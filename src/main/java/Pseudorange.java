/** A sky of made stars whose signals tell receivers where they are. */
public final class Pseudorange {
  private static final int NONE = -1;
  private static final int MOST_STARS = 8;
  private static final int MOST_STATIONS = 3;
  private static final int MOST_RECEIVERS = 3;
  private static final int ROUND = 48;
  private static final int MOST_OFFSET = 999;
  private static final int SIDE = 12;
  private static final int NO_LEVEL = 99;
  private static final int LEAST_TO_SOLVE = 3;
  private static final int LEAST_TO_CHECK = 4;

  private final Star[] stars;
  private final Station[] stations;
  private final Receiver[] receivers;
  private final Solver solver;
  private int starCount;
  private int stationCount;
  private int receiverCount;
  private int epoch;

  public Pseudorange() {
    stars = new Star[MOST_STARS];
    stations = new Station[MOST_STATIONS];
    receivers = new Receiver[MOST_RECEIVERS];
    solver = new Solver();
  }

  // ---- stars and stations

  public int star(int radius, int phase, int spin, int offset, int drift)
      throws IllegalArgumentException, IllegalStateException {
    if (isOutside(radius, 60, 200) || isOutside(phase, 0, ROUND - 1) || isOutside(spin, -3, 3)) {
      throw new IllegalArgumentException("radius, phase or spin");
    }
    if (isOutside(offset, -500, 500) || isOutside(drift, -3, 3)) {
      throw new IllegalArgumentException("offset or drift");
    }
    if (starCount >= MOST_STARS) {
      throw new IllegalStateException("there are 8 stars");
    }
    stars[starCount] = new Star(radius, phase, spin, offset, drift);
    starCount++;
    return starCount - 1;
  }

  public int push(int star, int by) throws IndexOutOfBoundsException, IllegalArgumentException {
    if (isNoStar(star)) {
      throw new IndexOutOfBoundsException("no such star");
    }
    if (isOutside(by, -5, 5)) {
      throw new IllegalArgumentException("by");
    }
    Star pushed = stars[star];
    pushed.phase = Math.floorMod(pushed.phase + by, ROUND);
    return pushed.phase;
  }

  public int jump(int star, int offset, int drift)
      throws IndexOutOfBoundsException, IllegalArgumentException {
    if (isNoStar(star)) {
      throw new IndexOutOfBoundsException("no such star");
    }
    if (isOutside(offset, -99, 99) || isOutside(drift, -3, 3)) {
      throw new IllegalArgumentException("offset or drift");
    }
    Star jumped = stars[star];
    jumped.moveClock(offset);
    jumped.drift = drift;
    return jumped.offset;
  }

  public boolean health(int star, boolean is) throws IndexOutOfBoundsException {
    if (isNoStar(star)) {
      throw new IndexOutOfBoundsException("no such star");
    }
    boolean was = stars[star].isHealthy;
    stars[star].isHealthy = is;
    return was;
  }

  public int station(int x, int delay) throws IllegalArgumentException, IllegalStateException {
    if (isOutside(x, -50, 50) || isOutside(delay, 0, 9)) {
      throw new IllegalArgumentException("x or delay");
    }
    if (stationCount >= MOST_STATIONS) {
      throw new IllegalStateException("there are 3 stations");
    }
    stations[stationCount] = new Station(x, delay);
    stationCount++;
    return stationCount - 1;
  }

  public int listen(int station, int star) throws IndexOutOfBoundsException, IllegalStateException {
    if (isNoStation(station) || isNoStar(star)) {
      throw new IndexOutOfBoundsException("no such station or star");
    }
    Star heard = stars[star];
    Station listening = stations[station];
    if (!listening.canHear(heard, 0)) {
      throw new IllegalStateException("the station can not hear the star");
    }
    heard.takeMessage(epoch, listening.delay);
    return heard.issue;
  }

  // ---- receivers

  public int receiver(int x, int y, int bias)
      throws IllegalArgumentException, IllegalStateException {
    if (isNoPlace(x, y) || isOutside(bias, -99, 99)) {
      throw new IllegalArgumentException("x, y or bias");
    }
    if (receiverCount >= MOST_RECEIVERS) {
      throw new IllegalStateException("there are 3 receivers");
    }
    receivers[receiverCount] = new Receiver(receiverCount, x, y, bias);
    receiverCount++;
    return receiverCount - 1;
  }

  public int go(int receiver, int x, int y)
      throws IndexOutOfBoundsException, IllegalArgumentException {
    if (isNoReceiver(receiver)) {
      throw new IndexOutOfBoundsException("no such receiver");
    }
    if (isNoPlace(x, y)) {
      throw new IllegalArgumentException("x or y");
    }
    Receiver moved = receivers[receiver];
    int way = rangeOf(moved.x, moved.y, x, y);
    moved.x = x;
    moved.y = y;
    return way;
  }

  public int hills(int receiver, int left, int right)
      throws IndexOutOfBoundsException, IllegalArgumentException {
    if (isNoReceiver(receiver)) {
      throw new IndexOutOfBoundsException("no such receiver");
    }
    if (isOutside(left, 0, 60) || isOutside(right, 0, 60)) {
      throw new IllegalArgumentException("left or right");
    }
    Receiver told = receivers[receiver];
    told.leftHill = left;
    told.rightHill = right;
    return Integer.bitCount(setSeen(told, 0));
  }

  public int air(int receiver, int iono, boolean isDual)
      throws IndexOutOfBoundsException, IllegalArgumentException {
    if (isNoReceiver(receiver)) {
      throw new IndexOutOfBoundsException("no such receiver");
    }
    if (isOutside(iono, 0, 9)) {
      throw new IllegalArgumentException("iono");
    }
    Receiver told = receivers[receiver];
    int before = told.iono;
    told.iono = iono;
    told.isDual = isDual;
    return before;
  }

  public int alert(int receiver, int alert)
      throws IndexOutOfBoundsException, IllegalArgumentException {
    if (isNoReceiver(receiver)) {
      throw new IndexOutOfBoundsException("no such receiver");
    }
    if (isOutside(alert, 1, 24)) {
      throw new IllegalArgumentException("alert");
    }
    int before = receivers[receiver].alertLimit;
    receivers[receiver].alertLimit = alert;
    return before;
  }

  public int spoof(int receiver, int by)
      throws IndexOutOfBoundsException, IllegalArgumentException {
    if (isNoReceiver(receiver)) {
      throw new IndexOutOfBoundsException("no such receiver");
    }
    if (isOutside(by, -30, 30)) {
      throw new IllegalArgumentException("by");
    }
    int before = receivers[receiver].spoofed;
    receivers[receiver].spoofed = by;
    return before;
  }

  public int refer(int receiver, int reference)
      throws IndexOutOfBoundsException, IllegalArgumentException {
    if (isNoReceiver(receiver) || (reference != NONE && isNoReceiver(reference))) {
      throw new IndexOutOfBoundsException("no such receiver or reference");
    }
    if (receiver == reference) {
      throw new IllegalArgumentException("a receiver is no reference of itself");
    }
    int before = receivers[receiver].reference;
    receivers[receiver].reference = reference;
    return before;
  }

  public int pass(int epochs) throws IllegalArgumentException {
    if (isOutside(epochs, 1, ROUND)) {
      throw new IllegalArgumentException("epochs");
    }
    for (int k = 0; k < epochs; k++) {
      passOne();
    }
    return epoch;
  }

  public int observe(int receiver) throws IndexOutOfBoundsException, IllegalStateException {
    if (isNoReceiver(receiver)) {
      throw new IndexOutOfBoundsException("no such receiver");
    }
    Receiver observing = receivers[receiver];
    Track track = observing.track;
    if (track.hasObservedIn(epoch)) {
      throw new IllegalStateException("it observed in this epoch");
    }
    measure(observing);
    gatherMeasured(observing);
    offerCorrections(observing);
    solver.solve();
    track.keepAll(epoch, solver, alarmOf(observing, true), observing.x, observing.y);
    return track.alarm;
  }

  // ---- what is asked

  public int ofStar(int star, int what) throws IndexOutOfBoundsException, IllegalArgumentException {
    if (isNoStar(star)) {
      throw new IndexOutOfBoundsException("no such star");
    }
    if (isOutside(what, 0, 7)) {
      throw new IllegalArgumentException("what");
    }
    return stars[star].tell(what);
  }

  public int message(int star, int what)
      throws IndexOutOfBoundsException, IllegalArgumentException {
    if (isNoStar(star)) {
      throw new IndexOutOfBoundsException("no such star");
    }
    if (isOutside(what, 0, 7)) {
      throw new IllegalArgumentException("what");
    }
    return stars[star].tellMessage(what, epoch);
  }

  public int seen(int receiver, int star, int what)
      throws IndexOutOfBoundsException, IllegalArgumentException {
    if (isNoReceiver(receiver) || isNoStar(star)) {
      throw new IndexOutOfBoundsException("no such receiver or star");
    }
    if (isOutside(what, 0, 7)) {
      throw new IllegalArgumentException("what");
    }
    return receivers[receiver].sights[star].tell(what);
  }

  public int ofReceiver(int receiver, int what)
      throws IndexOutOfBoundsException, IllegalArgumentException {
    if (isNoReceiver(receiver)) {
      throw new IndexOutOfBoundsException("no such receiver");
    }
    if (isOutside(what, 0, 13)) {
      throw new IllegalArgumentException("what");
    }
    return tellReceiver(receivers[receiver], what);
  }

  public int many(int what) throws IllegalArgumentException {
    if (isOutside(what, 0, 8)) {
      throw new IllegalArgumentException("what");
    }
    return countOf(what);
  }

  public double meanError(int receiver) throws IndexOutOfBoundsException {
    if (isNoReceiver(receiver)) {
      throw new IndexOutOfBoundsException("no such receiver");
    }
    return receivers[receiver].track.meanOfErrors();
  }

  // ---- what would be

  public int wouldSee(int receiver, int epochs)
      throws IndexOutOfBoundsException, IllegalArgumentException {
    if (isNoReceiver(receiver)) {
      throw new IndexOutOfBoundsException("no such receiver");
    }
    if (isOutside(epochs, 0, ROUND)) {
      throw new IllegalArgumentException("epochs");
    }
    return setSeen(receivers[receiver], epochs);
  }

  public int heardIn(int star, int station) throws IndexOutOfBoundsException {
    if (isNoStar(star) || isNoStation(station)) {
      throw new IndexOutOfBoundsException("no such star or station");
    }
    return firstHeard(stars[star], stations[station]);
  }

  public int without(int receiver, int star) throws IndexOutOfBoundsException {
    if (isNoReceiver(receiver) || isNoStar(star)) {
      throw new IndexOutOfBoundsException("no such receiver or star");
    }
    gatherSupposed(receivers[receiver], star);
    solver.solve();
    if (!solver.hasSolution()) {
      return NONE;
    }
    return 100 * (solver.x + SIDE) + solver.y;
  }

  public int wouldAlarm(int receiver) throws IndexOutOfBoundsException {
    if (isNoReceiver(receiver)) {
      throw new IndexOutOfBoundsException("no such receiver");
    }
    return supposedAlarm(receivers[receiver]);
  }

  public long digest() {
    long d = 58189;
    for (int what = 0; what <= 8; what++) {
      d = d * 31 + countOf(what);
    }
    for (int i = 0; i < starCount; i++) {
      d = digestStar(d, stars[i]);
    }
    for (int i = 0; i < receiverCount; i++) {
      d = digestReceiver(d, receivers[i]);
    }
    if (receiverCount > 0) {
      d = d * 31 + supposedAlarm(receivers[0]);
    }
    return d;
  }

  // ---- limits

  private static boolean isOutside(int value, int least, int most) {
    return value < least || value > most;
  }

  private static boolean isNoPlace(int x, int y) {
    return isOutside(x, -SIDE, SIDE) || isOutside(y, 0, SIDE);
  }

  private boolean isNoStar(int star) {
    return isOutside(star, 0, starCount - 1);
  }

  private boolean isNoStation(int station) {
    return isOutside(station, 0, stationCount - 1);
  }

  private boolean isNoReceiver(int receiver) {
    return isOutside(receiver, 0, receiverCount - 1);
  }

  private static int held(int value, int limit) {
    return Math.max(-limit, Math.min(limit, value));
  }

  // ---- the plane

  private static int rangeOf(int x, int y, int otherX, int otherY) {
    return Math.max(Math.abs(x - otherX), Math.abs(y - otherY));
  }

  /** The T of a PHASE. */
  private static int swing(int phase) {
    int u = phase % ROUND;
    if (u < 0) {
      u += ROUND;
    }
    if (u <= 12) {
      return u;
    }
    return u <= 36 ? 24 - u : u - ROUND;
  }

  // ---- epochs

  private void passOne() {
    epoch++;
    for (int i = 0; i < starCount; i++) {
      stars[i].passOne();
    }
  }

  // ---- seeing

  private int setSeen(Receiver receiver, int epochs) {
    int set = 0;
    for (int i = 0; i < starCount; i++) {
      if (receiver.canSee(stars[i], epochs)) {
        set |= 1 << i;
      }
    }
    return set;
  }

  private static int firstHeard(Star star, Station station) {
    for (int k = 0; k <= ROUND; k++) {
      if (station.canHear(star, k)) {
        return k;
      }
    }
    return NONE;
  }

  // ---- measuring

  private void measure(Receiver receiver) {
    boolean isNext = receiver.track.hasObservedIn(epoch - 1);
    for (int i = 0; i < starCount; i++) {
      Sight sight = receiver.sights[i];
      if (receiver.canSee(stars[i], 0)) {
        int count = receiver.trueCount(stars[i]);
        sight.take(codeOf(receiver, i), Math.floorMod(count, 10), isNext);
      } else {
        sight.lose();
      }
    }
  }

  private int codeOf(Receiver receiver, int number) {
    int noise = Math.floorMod(7 * epoch + 3 * number + 2 * receiver.number, 5) - 2;
    return receiver.trueCount(stars[number]) + receiver.airDelay(stars[number]) + noise;
  }

  // ---- solving

  private void gatherMeasured(Receiver receiver) {
    solver.clear();
    for (int i = 0; i < starCount; i++) {
      Sight sight = receiver.sights[i];
      if (sight.isSeen && stars[i].messageHolds(epoch)) {
        sight.isUsed = true;
        sight.correction = correctionOf(receiver, i);
        use(stars[i], sight.measured() - sight.correction, sight.isFixed);
      }
    }
  }

  /** As if the RECEIVER OBSERVED now, but with no STAR FIXED and one left out (or NONE). */
  private void gatherSupposed(Receiver receiver, int leftOut) {
    solver.clear();
    for (int i = 0; i < starCount; i++) {
      if (i != leftOut && receiver.canSee(stars[i], 0) && stars[i].messageHolds(epoch)) {
        use(stars[i], codeOf(receiver, i) - correctionOf(receiver, i), false);
      }
    }
  }

  private void use(Star star, int corrected, boolean isFixed) {
    int x = star.toldX(epoch);
    int y = star.toldY(epoch);
    int weight = isFixed ? 4 : y > Math.abs(x) ? 2 : 1;
    solver.use(x, y, corrected - star.toldClock(epoch), weight);
  }

  private int correctionOf(Receiver receiver, int star) {
    if (isNoReceiver(receiver.reference)) {
      return 0;
    }
    Receiver reference = receivers[receiver.reference];
    if (!reference.track.hasObservedSince(epoch - 5) || !reference.sights[star].isUsed) {
      return 0;
    }
    return reference.sights[star].offered;
  }

  /** Keeps now what others will be corrected by, as the RECEIVER and the MESSAGES may change. */
  private void offerCorrections(Receiver receiver) {
    int used = 0;
    int sum = 0;
    for (int i = 0; i < starCount; i++) {
      Sight sight = receiver.sights[i];
      if (sight.isUsed) {
        sight.offered = tooFar(receiver, stars[i], sight.measured());
        sum += sight.offered;
        used++;
      }
    }
    if (used == 0) {
      return;
    }
    int mean = Math.floorDiv(sum, used);
    for (int i = 0; i < starCount; i++) {
      if (receiver.sights[i].isUsed) {
        receiver.sights[i].offered -= mean;
      }
    }
  }

  private int tooFar(Receiver receiver, Star star, int measured) {
    int range = rangeOf(receiver.x, receiver.y, star.toldX(epoch), star.toldY(epoch));
    return measured - star.toldClock(epoch) - range;
  }

  private int alarmOf(Receiver receiver, boolean withLeap) {
    if (solver.used < LEAST_TO_CHECK) {
      return 1;
    }
    if (solver.cost > 40 * solver.used) {
      return 2;
    }
    if (solver.level > receiver.alertLimit) {
      return 3;
    }
    return withLeap && receiver.track.leapsTo(solver.x, solver.y, epoch) ? 4 : 0;
  }

  private int supposedAlarm(Receiver receiver) {
    gatherSupposed(receiver, NONE);
    solver.solve();
    return alarmOf(receiver, false);
  }

  // ---- telling

  private int tellReceiver(Receiver receiver, int what) {
    switch (what) {
      case 0:
        return receiver.x;
      case 1:
        return receiver.y;
      case 2:
        return Integer.bitCount(setSeen(receiver, 0));
      case 13:
        return receiver.track.errorAt(receiver.x, receiver.y);
      default:
        return receiver.track.tell(what);
    }
  }

  private int countOf(int what) {
    switch (what) {
      case 0:
        return epoch;
      case 1:
        return starCount;
      case 2:
        return stationCount;
      case 3:
        return receiverCount;
      case 4:
      case 5:
      case 6:
        return sumOfStars(what);
      default:
        return sumOfReceivers(what);
    }
  }

  private int sumOfStars(int what) {
    int sum = 0;
    for (int i = 0; i < starCount; i++) {
      if (what == 4) {
        sum += stars[i].isHealthy ? 1 : 0;
      } else if (what == 5) {
        sum += stars[i].messageHolds(epoch) ? 1 : 0;
      } else {
        sum += stars[i].issue;
      }
    }
    return sum;
  }

  private int sumOfReceivers(int what) {
    int sum = 0;
    for (int i = 0; i < receiverCount; i++) {
      sum += what == 7 ? receivers[i].track.observations : receivers[i].track.misled;
    }
    return sum;
  }

  private long digestStar(long ahead, Star star) {
    long d = ahead;
    for (int what = 0; what <= 7; what++) {
      d = d * 31 + star.tell(what);
    }
    for (int what = 0; what <= 7; what++) {
      d = d * 31 + star.tellMessage(what, epoch);
    }
    for (int i = 0; i < stationCount; i++) {
      d = d * 31 + firstHeard(star, stations[i]);
    }
    return d;
  }

  private long digestReceiver(long ahead, Receiver receiver) {
    long d = ahead;
    for (int what = 0; what <= 13; what++) {
      d = d * 31 + tellReceiver(receiver, what);
    }
    for (int i = 0; i < starCount; i++) {
      for (int what = 0; what <= 7; what++) {
        d = d * 31 + receiver.sights[i].tell(what);
      }
    }
    return d * 31 + setSeen(receiver, 6);
  }

  /** A STAR with its MESSAGE (ISSUE 0: without one). */
  private static final class Star {
    private final int radius;
    private final int spin;
    private int phase;
    private int offset;
    private int drift;
    private boolean isHealthy;
    private int issue;
    private int toldEpoch;
    private int toldPhase;
    private int toldOffset;
    private int toldDrift;

    private Star(int radius, int phase, int spin, int offset, int drift) {
      this.radius = radius;
      this.phase = phase;
      this.spin = spin;
      this.offset = offset;
      this.drift = drift;
      isHealthy = true;
      toldEpoch = NONE;
      toldPhase = NONE;
    }

    private void moveClock(int by) {
      offset = held(offset + by, MOST_OFFSET);
    }

    private void passOne() {
      phase = Math.floorMod(phase + spin, ROUND);
      moveClock(drift);
    }

    private int xIn(int epochs) {
      return radius * swing(phase + epochs * spin) / 12;
    }

    private int yIn(int epochs) {
      return radius * swing(phase + epochs * spin + 12) / 12;
    }

    private void takeMessage(int epoch, int delay) {
      int told = offset + delay;
      int passed = epoch - toldEpoch;
      if (issue > 0 && passed != 0) {
        toldDrift = held((told - toldOffset) / passed, 9);
      }
      issue++;
      toldEpoch = epoch;
      toldPhase = phase;
      toldOffset = told;
    }

    private boolean messageHolds(int epoch) {
      return issue > 0 && !isOutside(epoch - toldEpoch, 0, 12);
    }

    private int toldX(int epoch) {
      return radius * swing(toldPhase + (epoch - toldEpoch) * spin) / 12;
    }

    private int toldY(int epoch) {
      return radius * swing(toldPhase + (epoch - toldEpoch) * spin + 12) / 12;
    }

    private int toldClock(int epoch) {
      return toldOffset + (epoch - toldEpoch) * toldDrift;
    }

    private int tell(int what) {
      switch (what) {
        case 0:
          return radius;
        case 1:
          return phase;
        case 2:
          return spin;
        case 3:
          return offset;
        case 4:
          return drift;
        case 5:
          return isHealthy ? 1 : 0;
        case 6:
          return xIn(0);
        default:
          return yIn(0);
      }
    }

    private int tellMessage(int what, int epoch) {
      switch (what) {
        case 0:
          return issue;
        case 1:
          return toldEpoch;
        case 2:
          return toldPhase;
        case 3:
          return toldOffset;
        case 4:
          return toldDrift;
        case 5:
          return messageHolds(epoch) ? 1 : 0;
        case 6:
          return issue == 0 ? 0 : Math.abs(toldClock(epoch) - offset);
        default:
          return issue == 0 ? 0 : rangeOf(toldX(epoch), toldY(epoch), xIn(0), yIn(0));
      }
    }
  }

  /** A STATION on the ground. */
  private static final class Station {
    private final int x;
    private final int delay;

    private Station(int x, int delay) {
      this.x = x;
      this.delay = delay;
    }

    private boolean canHear(Star star, int epochs) {
      int y = star.yIn(epochs);
      return star.isHealthy && y >= 10 && Math.abs(star.xIn(epochs) - x) <= 2 * y;
    }
  }

  /** A RECEIVER as it is told, with what it measured of each STAR and what came of it. */
  private static final class Receiver {
    private final int number;
    private final int bias;
    private final Sight[] sights;
    private final Track track;
    private int x;
    private int y;
    private int leftHill;
    private int rightHill;
    private int iono;
    private boolean isDual;
    private int alertLimit;
    private int spoofed;
    private int reference;

    private Receiver(int number, int x, int y, int bias) {
      this.number = number;
      this.x = x;
      this.y = y;
      this.bias = bias;
      leftHill = 5;
      rightHill = 5;
      isDual = true;
      alertLimit = 6;
      reference = NONE;
      track = new Track();
      sights = new Sight[MOST_STARS];
      for (int i = 0; i < MOST_STARS; i++) {
        sights[i] = new Sight();
      }
    }

    private boolean canSee(Star star, int epochs) {
      int hill = star.xIn(epochs) < x ? leftHill : rightHill;
      return star.isHealthy && star.yIn(epochs) - y >= hill;
    }

    private int trueCount(Star star) {
      int starX = star.xIn(0);
      int range = rangeOf(x, y, starX, star.yIn(0));
      return range + star.offset + bias + (starX < x ? spoofed : -spoofed);
    }

    private int airDelay(Star star) {
      if (isDual) {
        return 0;
      }
      boolean isLow = Math.abs(star.xIn(0) - x) > Math.abs(star.yIn(0) - y);
      return isLow ? 2 * iono : iono;
    }
  }

  /** What the latest OBSERVATION of a RECEIVER was of one STAR. */
  private static final class Sight {
    private boolean isSeen;
    private boolean isFixed;
    private boolean isUsed;
    private int code;
    private int wave;
    private int count;
    private int left;
    private int kept;
    private int steady;
    private int correction;
    private int offered;

    private void take(int newCode, int newWave, boolean isNext) {
      boolean goesOn = isNext && isSeen;
      forget();
      isSeen = true;
      code = newCode;
      wave = newWave;
      count = Math.floorDiv(code - wave + 5, 10);
      left = code - wave - 10 * count;
      kept = goesOn ? kept + 1 : 1;
      steady = isOutside(left, -2, 2) ? 0 : goesOn ? steady + 1 : 1;
      isFixed = kept >= 3 && steady >= 3;
    }

    private void lose() {
      forget();
      isSeen = false;
      isFixed = false;
    }

    private void forget() {
      isUsed = false;
      correction = 0;
      offered = 0;
    }

    private int measured() {
      return isFixed ? wave + 10 * count : code;
    }

    private int tell(int what) {
      if (what == 5) {
        return isFixed ? 1 : 0;
      }
      if (what == 6) {
        return isUsed ? 1 : 0;
      }
      return isSeen ? tellSeen(what) : NONE;
    }

    private int tellSeen(int what) {
      switch (what) {
        case 0:
          return code;
        case 1:
          return wave;
        case 2:
          return count;
        case 3:
          return left;
        case 4:
          return kept;
        default:
          return correction;
      }
    }
  }

  /** What came of the OBSERVATIONS of a RECEIVER. */
  private static final class Track {
    private int observations;
    private int latest;
    private int used;
    private int solutions;
    private int errors;
    private int x;
    private int y;
    private int time;
    private int cost;
    private int level;
    private int alarm;
    private int misled;
    private int alarmEpoch;

    private Track() {
      latest = NONE;
      level = NO_LEVEL;
      alarmEpoch = NONE;
    }

    private boolean hasObservedIn(int epoch) {
      return observations > 0 && latest == epoch;
    }

    private boolean hasObservedSince(int epoch) {
      return observations > 0 && latest >= epoch;
    }

    private boolean leapsTo(int newX, int newY, int epoch) {
      return hasObservedIn(epoch - 1) && used >= LEAST_TO_SOLVE && rangeOf(x, y, newX, newY) > 4;
    }

    private void keepAll(int epoch, Solver solver, int newAlarm, int trueX, int trueY) {
      observations++;
      latest = epoch;
      used = solver.used;
      level = solver.level;
      alarm = newAlarm;
      if (alarm > 0) {
        alarmEpoch = epoch;
      }
      if (solver.hasSolution()) {
        keepSolution(solver, trueX, trueY);
      }
    }

    private void keepSolution(Solver solver, int trueX, int trueY) {
      x = solver.x;
      y = solver.y;
      time = solver.time;
      cost = (int) solver.cost;
      solutions++;
      int error = errorAt(trueX, trueY);
      errors += error;
      if (alarm == 0 && error > level) {
        misled++;
      }
    }

    private int errorAt(int trueX, int trueY) {
      return solutions == 0 ? 0 : rangeOf(x, y, trueX, trueY);
    }

    private double meanOfErrors() {
      return solutions == 0 ? 0.0 : (double) errors / (double) solutions;
    }

    private int tell(int what) {
      switch (what) {
        case 3:
          return latest;
        case 4:
          return used;
        case 5:
          return x;
        case 6:
          return y;
        case 7:
          return time;
        case 8:
          return cost;
        case 9:
          return level;
        case 10:
          return alarm;
        case 11:
          return misled;
        default:
          return alarmEpoch;
      }
    }
  }

  /** Finds the SOLUTION and the LEVEL of the USED STARS; its rows are used again each time. */
  private static final class Solver {
    private final int[] starX;
    private final int[] starY;
    private final int[] pseudoranges;
    private final int[] weights;
    private final int[] over;
    private int used;
    private int x;
    private int y;
    private int time;
    private long cost;
    private int level;
    private int bestX;
    private int bestY;
    private int bestTime;
    private long bestCost;

    private Solver() {
      starX = new int[MOST_STARS];
      starY = new int[MOST_STARS];
      pseudoranges = new int[MOST_STARS];
      weights = new int[MOST_STARS];
      over = new int[MOST_STARS];
    }

    private void clear() {
      used = 0;
    }

    private void use(int newX, int newY, int pseudorange, int weight) {
      if (used >= MOST_STARS) {
        return;
      }
      starX[used] = newX;
      starY[used] = newY;
      pseudoranges[used] = pseudorange;
      weights[used] = weight;
      used++;
    }

    private boolean hasSolution() {
      return used >= LEAST_TO_SOLVE;
    }

    private void solve() {
      level = NO_LEVEL;
      if (!hasSolution()) {
        return;
      }
      search(NONE);
      x = bestX;
      y = bestY;
      time = bestTime;
      cost = bestCost;
      if (used < LEAST_TO_CHECK) {
        return;
      }
      int farthest = 0;
      for (int i = 0; i < used; i++) {
        search(i);
        farthest = Math.max(farthest, rangeOf(x, y, bestX, bestY));
      }
      level = 3 + farthest;
    }

    /** The least y and then the least x come first, so that a later place must be better. */
    private void search(int leftOut) {
      bestCost = NONE;
      for (int placeY = 0; placeY <= SIDE; placeY++) {
        for (int placeX = -SIDE; placeX <= SIDE; placeX++) {
          tryPlace(placeX, placeY, leftOut);
        }
      }
    }

    private void tryPlace(int placeX, int placeY, int leftOut) {
      int sum = 0;
      int weight = 0;
      for (int i = 0; i < used; i++) {
        over[i] = pseudoranges[i] - rangeOf(placeX, placeY, starX[i], starY[i]);
        if (i != leftOut) {
          sum += weights[i] * over[i];
          weight += weights[i];
        }
      }
      int placeTime = weight == 0 ? 0 : Math.floorDiv(sum, weight);
      long placeCost = costBy(placeTime, leftOut);
      if (bestCost == NONE || placeCost < bestCost) {
        bestX = placeX;
        bestY = placeY;
        bestTime = placeTime;
        bestCost = placeCost;
      }
    }

    private long costBy(int placeTime, int leftOut) {
      long sum = 0;
      for (int i = 0; i < used; i++) {
        if (i != leftOut) {
          long off = over[i] - placeTime;
          sum += weights[i] * off * off;
        }
      }
      return sum;
    }
  }
}

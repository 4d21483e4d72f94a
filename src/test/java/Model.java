import java.util.ArrayList;
import java.util.Comparator;
import java.util.List;
import java.util.TreeMap;

/**
 * The document once more, written another way to check the class by: every message and every
 * observation stays in a list, and all that is asked is worked out anew from these lists.
 */
final class Model {
  private static final int NONE = -1;

  private record Point(int x, int y) {
    int range(Point other) {
      return Math.max(Math.abs(x - other.x), Math.abs(y - other.y));
    }
  }

  private record Message(int epoch, int phase, int offset, int drift) {}

  private record Station(int x, int delay) {}

  private record Row(int star, Point at, int pseudorange, int weight) {}

  private record Solution(Point place, int time, int cost) {}

  private static final class Star {
    int radius, phase, spin, offset, drift;
    boolean healthy = true;
    final List<Message> messages = new ArrayList<>();

    Point at(int ofPhase) {
      return new Point(radius * wave(ofPhase) / 12, radius * wave(ofPhase + 12) / 12);
    }

    Point in(int epochs) {
      return at(phase + epochs * spin);
    }

    Message latest() {
      return messages.isEmpty() ? null : messages.get(messages.size() - 1);
    }
  }

  private static final class Glimpse {
    int code, wave, count, left, kept, correction, raw;
    boolean fixed, used;
    Point told;
  }

  private static final class Observation {
    int epoch, level, alarm, misled;
    Point place;
    final TreeMap<Integer, Glimpse> glimpses = new TreeMap<>();
    Solution solution;

    long used() {
      return glimpses.values().stream().filter(g -> g.used).count();
    }
  }

  private static final class Receiver {
    Point at;
    int number, bias, left = 5, right = 5, iono, alert = 6, spoof, reference = NONE;
    boolean dual = true;
    final List<Observation> observations = new ArrayList<>();

    Observation ago(int n) {
      int i = observations.size() - 1 - n;
      return i < 0 ? null : observations.get(i);
    }
  }

  private final List<Star> stars = new ArrayList<>();
  private final List<Station> stations = new ArrayList<>();
  private final List<Receiver> receivers = new ArrayList<>();
  private int epoch;

  /** A triangle between 12 and -12, by its distance from the top at 12. */
  private static int wave(int phase) {
    int fromTop = Math.floorMod(phase - 12, 48);
    return 12 - Math.min(fromTop, 48 - fromTop);
  }

  private static void index(List<?> list, int i) {
    if (i < 0 || i >= list.size()) {
      throw new IndexOutOfBoundsException();
    }
  }

  private static void argument(boolean isFine) {
    if (!isFine) {
      throw new IllegalArgumentException();
    }
  }

  private static void state(boolean isFine) {
    if (!isFine) {
      throw new IllegalStateException();
    }
  }

  private static boolean in(int v, int from, int to) {
    return from <= v && v <= to;
  }

  private static int hold(int v, int most) {
    return v > most ? most : v < -most ? -most : v;
  }

  int star(int radius, int phase, int spin, int offset, int drift) {
    argument(in(radius, 60, 200) && in(phase, 0, 47) && in(spin, -3, 3));
    argument(in(offset, -500, 500) && in(drift, -3, 3));
    state(stars.size() < 8);
    Star s = new Star();
    s.radius = radius;
    s.phase = phase;
    s.spin = spin;
    s.offset = offset;
    s.drift = drift;
    stars.add(s);
    return stars.size() - 1;
  }

  int push(int star, int by) {
    index(stars, star);
    argument(in(by, -5, 5));
    Star s = stars.get(star);
    s.phase = (s.phase + by + 48) % 48;
    return s.phase;
  }

  int jump(int star, int offset, int drift) {
    index(stars, star);
    argument(in(offset, -99, 99) && in(drift, -3, 3));
    Star s = stars.get(star);
    s.offset = hold(s.offset + offset, 999);
    s.drift = drift;
    return s.offset;
  }

  boolean health(int star, boolean is) {
    index(stars, star);
    boolean was = stars.get(star).healthy;
    stars.get(star).healthy = is;
    return was;
  }

  int station(int x, int delay) {
    argument(in(x, -50, 50) && in(delay, 0, 9));
    state(stations.size() < 3);
    stations.add(new Station(x, delay));
    return stations.size() - 1;
  }

  int listen(int station, int star) {
    index(stations, station);
    index(stars, star);
    state(heardIn(star, station) == 0);
    Star s = stars.get(star);
    Message ahead = s.latest();
    int offset = s.offset + stations.get(station).delay();
    int drift = 0;
    if (ahead != null) {
      drift = ahead.drift();
      if (epoch > ahead.epoch()) {
        drift = hold((offset - ahead.offset()) / (epoch - ahead.epoch()), 9);
      }
    }
    s.messages.add(new Message(epoch, s.phase, offset, drift));
    return s.messages.size();
  }

  int receiver(int x, int y, int bias) {
    argument(in(x, -12, 12) && in(y, 0, 12) && in(bias, -99, 99));
    state(receivers.size() < 3);
    Receiver r = new Receiver();
    r.number = receivers.size();
    r.at = new Point(x, y);
    r.bias = bias;
    receivers.add(r);
    return r.number;
  }

  int go(int receiver, int x, int y) {
    index(receivers, receiver);
    argument(in(x, -12, 12) && in(y, 0, 12));
    Receiver r = receivers.get(receiver);
    Point from = r.at;
    r.at = new Point(x, y);
    return from.range(r.at);
  }

  int hills(int receiver, int left, int right) {
    index(receivers, receiver);
    argument(in(left, 0, 60) && in(right, 0, 60));
    receivers.get(receiver).left = left;
    receivers.get(receiver).right = right;
    return ofReceiver(receiver, 2);
  }

  int air(int receiver, int iono, boolean isDual) {
    index(receivers, receiver);
    argument(in(iono, 0, 9));
    int before = receivers.get(receiver).iono;
    receivers.get(receiver).iono = iono;
    receivers.get(receiver).dual = isDual;
    return before;
  }

  int alert(int receiver, int alert) {
    index(receivers, receiver);
    argument(in(alert, 1, 24));
    int before = receivers.get(receiver).alert;
    receivers.get(receiver).alert = alert;
    return before;
  }

  int spoof(int receiver, int by) {
    index(receivers, receiver);
    argument(in(by, -30, 30));
    int before = receivers.get(receiver).spoof;
    receivers.get(receiver).spoof = by;
    return before;
  }

  int refer(int receiver, int reference) {
    index(receivers, receiver);
    if (reference != NONE) {
      index(receivers, reference);
    }
    argument(receiver != reference);
    int before = receivers.get(receiver).reference;
    receivers.get(receiver).reference = reference;
    return before;
  }

  int pass(int epochs) {
    argument(in(epochs, 1, 48));
    epoch += epochs;
    for (Star s : stars) {
      s.phase = Math.floorMod(s.phase + epochs * s.spin, 48);
      s.offset = hold(s.offset + epochs * s.drift, 999);
    }
    return epoch;
  }

  int observe(int receiver) {
    index(receivers, receiver);
    Receiver r = receivers.get(receiver);
    state(r.ago(0) == null || r.ago(0).epoch != epoch);
    Observation now = supposed(r, NONE, false);
    r.observations.add(now);
    return now.alarm;
  }

  int ofStar(int star, int what) {
    index(stars, star);
    argument(in(what, 0, 7));
    Star s = stars.get(star);
    int[] all = {s.radius, s.phase, s.spin, s.offset, s.drift, s.healthy ? 1 : 0,
        s.in(0).x(), s.in(0).y()};
    return all[what];
  }

  int message(int star, int what) {
    index(stars, star);
    argument(in(what, 0, 7));
    Star s = stars.get(star);
    Message m = s.latest();
    if (m == null) {
      return what == 1 || what == 2 ? NONE : 0;
    }
    int[] all = {s.messages.size(), m.epoch(), m.phase(), m.offset(), m.drift(), holds(s) ? 1 : 0,
        Math.abs(clockBy(s) - s.offset), placeBy(s).range(s.in(0))};
    return all[what];
  }

  int seen(int receiver, int star, int what) {
    index(receivers, receiver);
    index(stars, star);
    argument(in(what, 0, 7));
    Observation latest = receivers.get(receiver).ago(0);
    Glimpse g = latest == null ? null : latest.glimpses.get(star);
    if (g == null) {
      return what == 5 || what == 6 ? 0 : NONE;
    }
    int[] all = {g.code, g.wave, g.count, g.left, g.kept, g.fixed ? 1 : 0, g.used ? 1 : 0,
        g.correction};
    return all[what];
  }

  int ofReceiver(int receiver, int what) {
    index(receivers, receiver);
    argument(in(what, 0, 13));
    Receiver r = receivers.get(receiver);
    Observation latest = r.ago(0);
    Solution s = null;
    int misled = 0;
    int alarmed = NONE;
    for (Observation o : r.observations) {
      s = o.solution == null ? s : o.solution;
      misled += o.misled;
      alarmed = o.alarm > 0 ? o.epoch : alarmed;
    }
    int[] all = {r.at.x(), r.at.y(), Integer.bitCount(wouldSee(receiver, 0)),
        latest == null ? NONE : latest.epoch, latest == null ? 0 : (int) latest.used(),
        s == null ? 0 : s.place().x(), s == null ? 0 : s.place().y(), s == null ? 0 : s.time(),
        s == null ? 0 : s.cost(), latest == null ? 99 : latest.level,
        latest == null ? 0 : latest.alarm, misled, alarmed,
        s == null ? 0 : s.place().range(r.at)};
    return all[what];
  }

  int many(int what) {
    argument(in(what, 0, 8));
    int healthy = 0, holding = 0, issues = 0, observations = 0, misled = 0;
    for (Star s : stars) {
      healthy += s.healthy ? 1 : 0;
      holding += holds(s) ? 1 : 0;
      issues += s.messages.size();
    }
    for (Receiver r : receivers) {
      observations += r.observations.size();
      misled += r.observations.stream().mapToInt(o -> o.misled).sum();
    }
    int[] all = {epoch, stars.size(), stations.size(), receivers.size(), healthy, holding, issues,
        observations, misled};
    return all[what];
  }

  double meanError(int receiver) {
    index(receivers, receiver);
    return receivers.get(receiver).observations.stream().filter(o -> o.solution != null)
        .mapToInt(o -> o.solution.place().range(o.place)).average().orElse(0);
  }

  int wouldSee(int receiver, int epochs) {
    index(receivers, receiver);
    argument(in(epochs, 0, 48));
    int set = 0;
    for (int i = 0; i < stars.size(); i++) {
      set += sees(receivers.get(receiver), stars.get(i), epochs) ? 1 << i : 0;
    }
    return set;
  }

  int heardIn(int star, int station) {
    index(stars, star);
    index(stations, station);
    Star s = stars.get(star);
    for (int k = 0; k < 49; k++) {
      Point p = s.in(k);
      int way = Math.abs(p.x() - stations.get(station).x());
      if (s.healthy && p.y() > 9 && !(way > p.y() + p.y())) {
        return k;
      }
    }
    return NONE;
  }

  int without(int receiver, int star) {
    index(receivers, receiver);
    index(stars, star);
    Observation o = supposed(receivers.get(receiver), star, true);
    return o.solution == null ? NONE : (o.solution.place().x() + 12) * 100 + o.solution.place().y();
  }

  int wouldAlarm(int receiver) {
    index(receivers, receiver);
    return supposed(receivers.get(receiver), NONE, true).alarm;
  }

  long digest() {
    List<Integer> all = new ArrayList<>();
    for (int i = 0; i < 9; i++) {
      all.add(many(i));
    }
    for (int s = 0; s < stars.size(); s++) {
      for (int i = 0; i < 16; i++) {
        all.add(i < 8 ? ofStar(s, i) : message(s, i - 8));
      }
      for (int i = 0; i < stations.size(); i++) {
        all.add(heardIn(s, i));
      }
    }
    for (int r = 0; r < receivers.size(); r++) {
      for (int i = 0; i < 14; i++) {
        all.add(ofReceiver(r, i));
      }
      for (int i = 0; i < 8 * stars.size(); i++) {
        all.add(seen(r, i / 8, i % 8));
      }
      all.add(wouldSee(r, 6));
    }
    if (!receivers.isEmpty()) {
      all.add(wouldAlarm(0));
    }
    long d = 58189;
    for (int v : all) {
      d = d * 31 + v;
    }
    return d;
  }

  private boolean holds(Star s) {
    return s.latest() != null && epoch - s.latest().epoch() <= 12;
  }

  private int clockBy(Star s) {
    return s.latest().offset() + (epoch - s.latest().epoch()) * s.latest().drift();
  }

  private Point placeBy(Star s) {
    return s.at(s.latest().phase() + (epoch - s.latest().epoch()) * s.spin);
  }

  private static boolean sees(Receiver r, Star s, int epochs) {
    Point p = s.in(epochs);
    int hill = p.x() < r.at.x() ? r.left : r.right;
    return s.healthy && p.y() >= r.at.y() + hill;
  }

  private Observation supposed(Receiver r, int leftOut, boolean isSupposed) {
    Observation now = new Observation();
    now.epoch = epoch;
    now.place = r.at;
    List<Row> rows = new ArrayList<>();
    for (int i = 0; i < stars.size(); i++) {
      if (i == leftOut || !sees(r, stars.get(i), 0)) {
        continue;
      }
      Glimpse g = glimpse(r, i, isSupposed);
      now.glimpses.put(i, g);
      if (g.used) {
        int weight = g.fixed ? 4 : g.told.y() > Math.abs(g.told.x()) ? 2 : 1;
        rows.add(new Row(i, g.told, g.raw - g.correction, weight));
      }
    }
    now.solution = rows.size() < 3 ? null : solved(rows, NONE);
    now.level = level(rows, now.solution);
    now.alarm = alarm(r, now, rows.size(), isSupposed);
    boolean isWrong = now.alarm == 0 && now.solution.place().range(r.at) > now.level;
    now.misled = isWrong ? 1 : 0;
    return now;
  }

  private Glimpse glimpse(Receiver r, int star, boolean isSupposed) {
    Star s = stars.get(star);
    Point p = s.in(0);
    Glimpse g = new Glimpse();
    int dx = Math.abs(p.x() - r.at.x());
    int dy = Math.abs(p.y() - r.at.y());
    int trueCount = Math.max(dx, dy) + s.offset + r.bias;
    trueCount += p.x() < r.at.x() ? r.spoof : -r.spoof;
    int delay = r.dual ? 0 : dx > dy ? r.iono + r.iono : r.iono;
    g.code = trueCount + delay + (7 * epoch + 3 * star + 2 * r.number) % 5 - 2;
    g.wave = ((trueCount % 10) + 10) % 10;
    g.count = (int) Math.floor((g.code - g.wave + 5) / 10.0);
    g.left = g.code - g.wave - 10 * g.count;
    g.kept = 1;
    for (int n = 0; r.ago(n) != null && r.ago(n).epoch == epoch - 1 - n; n++) {
      if (!r.ago(n).glimpses.containsKey(star)) {
        break;
      }
      g.kept++;
    }
    g.fixed = !isSupposed && g.kept > 2 && Math.abs(g.left) <= 2
        && Math.abs(r.ago(0).glimpses.get(star).left) <= 2
        && Math.abs(r.ago(1).glimpses.get(star).left) <= 2;
    g.used = holds(s);
    if (g.used) {
      g.raw = (g.fixed ? g.wave + 10 * g.count : g.code) - clockBy(s);
      g.told = placeBy(s);
      g.correction = correction(r, star);
    }
    return g;
  }

  private int correction(Receiver r, int star) {
    if (r.reference == NONE) {
      return 0;
    }
    Observation o = receivers.get(r.reference).ago(0);
    if (o == null || epoch - o.epoch > 5) {
      return 0;
    }
    Glimpse of = o.glimpses.get(star);
    if (of == null || !of.used) {
      return 0;
    }
    int sum = 0;
    for (Glimpse g : o.glimpses.values()) {
      sum += g.used ? g.raw - o.place.range(g.told) : 0;
    }
    return of.raw - o.place.range(of.told) - (int) Math.floor(sum / (double) o.used());
  }

  private static int level(List<Row> rows, Solution solution) {
    if (rows.size() < 4) {
      return 99;
    }
    int most = 0;
    for (Row row : rows) {
      most = Math.max(most, solution.place().range(solved(rows, row.star()).place()));
    }
    return 3 + most;
  }

  private int alarm(Receiver r, Observation now, int used, boolean isSupposed) {
    if (used < 4) {
      return 1;
    }
    if (now.solution.cost() > 40 * used) {
      return 2;
    }
    if (now.level > r.alert) {
      return 3;
    }
    Observation ahead = r.ago(0);
    if (isSupposed || ahead == null || ahead.epoch != epoch - 1 || ahead.used() < 3) {
      return 0;
    }
    return ahead.solution.place().range(now.solution.place()) > 4 ? 4 : 0;
  }

  private static Solution solved(List<Row> rows, int leftOut) {
    List<Solution> all = new ArrayList<>();
    for (int x = 12; x >= -12; x--) {
      for (int y = 12; y >= 0; y--) {
        Point place = new Point(x, y);
        int sum = 0;
        int weights = 0;
        for (Row row : rows) {
          int weight = row.star() == leftOut ? 0 : row.weight();
          sum += weight * (row.pseudorange() - place.range(row.at()));
          weights += weight;
        }
        int time = (int) Math.floor(sum / (double) weights);
        int cost = 0;
        for (Row row : rows) {
          int weight = row.star() == leftOut ? 0 : row.weight();
          int off = row.pseudorange() - place.range(row.at()) - time;
          cost += weight * off * off;
        }
        all.add(new Solution(place, time, cost));
      }
    }
    return all.stream().min(Comparator.comparingInt(Solution::cost)
        .thenComparingInt(s -> s.place().y()).thenComparingInt(s -> s.place().x())).get();
  }
}

import java.math.BigInteger;
import java.util.ArrayList;
import java.util.List;
import java.util.function.Supplier;

/** The boundary cases of promises 37 to 41: what would be; 38 stands in EdgesChangeKinds. */
public final class EdgesWhatWouldBe extends Check {
  public static void main(String[] args) {
    wouldAddRefused();
    wouldAddNone();
    wouldAddTheBest();
    laterBackRefused();
    laterBackAtTheLimits();
    laterBackBehindWaiting();
    laterBackOfLaterStops();
    costWithoutRefused();
    costWithoutOneJob();
    costWithoutSetOrWrong();
    digestOfNothing();
    digestWrapsAround();
    digestOfAll();
    digestChangesNothing();
    manyCalls();
    end();
  }

  // ---- 37: wouldAdd

  private static void wouldAddRefused() {
    for (int no : outside(0, 0)) {
      idle(37, "job " + no, BOUNDS, Check::oneOpen, p -> p.wouldAdd(no, 0));
      idle(37, "vehicle " + no, BOUNDS, Check::oneOpen, p -> p.wouldAdd(0, no));
      idle(37, "vehicle " + no + ", planned", BOUNDS, Check::onePlanned, p -> p.wouldAdd(0, no));
      idle(37, "vehicle " + no + ", set", BOUNDS, Check::oneSet, p -> p.wouldAdd(0, no));
      idle(37, "both " + no, BOUNDS, Check::oneOpen, p -> p.wouldAdd(no, no));
    }
    for (int no : outside(0, 8)) {
      due(37, "job " + no + " of 9", BOUNDS, () -> fullHouse().wouldAdd(no, 0));
    }
    for (int no : outside(0, 2)) {
      due(37, "vehicle " + no + " of 3", BOUNDS, () -> fullHouse().wouldAdd(0, no));
    }
    idle(37, "planned", STATE, Check::onePlanned, p -> p.wouldAdd(0, 0));
    idle(37, "set", STATE, Check::oneSet, p -> p.wouldAdd(0, 0));
    idle(37, "planned by another vehicle", STATE, () -> {
      DroverPlan p = onePlanned();
      p.addVehicle(0, 10, 0, 1440, 1, 0);
      return p;
    }, p -> p.wouldAdd(0, 1));
    due(37, "no vehicle there", BOUNDS, () -> {
      DroverPlan p = line();
      p.addJob(0, 0, 1, 0, 0);
      return p.wouldAdd(0, 0);
    });
  }

  /** A vehicle and an open job from 1 to 2 without minutes: it is back at 40 behind its start. */
  private static DroverPlan made(int capacity, int from, int to) {
    DroverPlan p = line();
    p.addVehicle(0, capacity, from, to, 1, 7);
    p.addJob(1, 2, 3, 0, 100);
    return p;
  }

  private static void wouldAddNone() {
    idle(37, "all at their limits", 47, () -> made(3, 1400, 1440), p -> p.wouldAdd(0, 0));
    idle(37, "load one above the capacity", -1, () -> made(2, 0, 1440), p -> p.wouldAdd(0, 0));
    idle(37, "back a minute late", -1, () -> made(3, 0, 39), p -> p.wouldAdd(0, 0));
    idle(37, "it leaves at the clock", 47, () -> {
      DroverPlan p = made(3, 5, 1440);
      p.advance(5);
      return p;
    }, p -> p.wouldAdd(0, 0));
    idle(37, "it has left below the clock", -1, () -> {
      DroverPlan p = made(3, 5, 1440);
      p.advance(6);
      return p;
    }, p -> p.wouldAdd(0, 0));
    idle(37, "a route that is not right", -1, () -> {
      DroverPlan p = onePlanned();
      p.setHours(0, true, 0, 9);
      p.addJob(0, 0, 1, 0, 0);
      return p;
    }, p -> p.wouldAdd(1, 0));
  }

  private static void wouldAddTheBest() {
    DroverPlan p = onePlanned();
    p.addJob(1, 2, 3, 0, 0);
    p.addJob(3, 3, 3, 0, 0);
    due(37, "on the way", 0, () -> p.wouldAdd(1, 0));
    due(37, "a little farther", 20, () -> p.wouldAdd(2, 0));
    p.addVehicle(3, 10, 0, 1440, 9, 0);
    p.addVehicle(3, 10, 0, 1440, 9, 200);
    due(37, "at the home of another vehicle", 0, () -> p.wouldAdd(2, 1));
    due(37, "the price for being used", 200, () -> p.wouldAdd(2, 2));
    due(37, "the same as insertion adds", 0, () -> p.insert(2));
    due(37, "into that one", 1, () -> p.vehicleOf(2));
  }

  // ---- 39: laterBack

  private static void laterBackRefused() {
    for (int no : outside(0, 0)) {
      idle(39, "vehicle " + no, BOUNDS, Check::onePlanned, p -> p.laterBack(no, 0, 5));
      idle(39, "vehicle " + no + ", wrong minutes", BOUNDS, Check::onePlanned,
          p -> p.laterBack(no, 0, -1));
    }
    for (int no : outside(0, 1)) {
      idle(39, "stop " + no, BOUNDS, Check::onePlanned, p -> p.laterBack(0, no, 5));
      idle(39, "stop " + no + ", wrong minutes", BOUNDS, Check::onePlanned,
          p -> p.laterBack(0, no, 1441));
    }
    for (int no : outside(0, 1440)) {
      idle(39, "minutes " + no, ARGUMENT, Check::onePlanned, p -> p.laterBack(0, 0, no));
      idle(39, "minutes " + no + " at the last stop", ARGUMENT, Check::oneSet,
          p -> p.laterBack(0, 1, no));
    }
    idle(39, "a route without stops", BOUNDS, Check::oneOpen, p -> p.laterBack(0, 0, 0));
    DroverPlan full = fullHouse();
    full.rebuild();
    due(39, "the last one of 18", 1440, () -> full.laterBack(0, 17, 1440));
    due(39, "behind the last one of 18", BOUNDS, () -> full.laterBack(0, 18, 1440));
  }

  private static void laterBackAtTheLimits() {
    for (int minutes : new int[] {0, 1, 1439, 1440}) {
      idle(39, "minutes " + minutes, minutes, Check::onePlanned, p -> p.laterBack(0, 0, minutes));
      idle(39, "minutes " + minutes + ", set", minutes, Check::oneSet,
          p -> p.laterBack(0, 1, minutes));
      idle(39, "minutes " + minutes + ", not right", minutes, () -> {
        DroverPlan p = onePlanned();
        p.setHours(0, true, 0, 9);
        return p;
      }, p -> p.laterBack(0, 0, minutes));
    }
  }

  private static void laterBackBehindWaiting() {
    // It arrives at 25, and waits up to 40.
    DroverPlan p = onePlanned();
    p.setHours(0, false, 40, 60);
    int[] minutes = {0, 1, 14, 15, 16, 35, 36, 1440};
    int[] later = {0, 0, 0, 0, 1, 20, 21, 1425};
    for (int n = 0; n < minutes.length; n++) {
      int m = minutes[n];
      int due = later[n];
      due(39, m + " at the first stop, not more than the waiting", due, () -> p.laterBack(0, 0, m));
      due(39, m + " at the stop itself", due, () -> p.laterBack(0, 1, m));
    }
    p.setHours(0, true, 12, 20);
    due(39, "2 of waiting at the first stop, 13 at the next one", 0, () -> p.laterBack(0, 0, 15));
    due(39, "1 more", 1, () -> p.laterBack(0, 0, 16));
    due(39, "not that ahead of the stop", 0, () -> p.laterBack(0, 1, 13));
    due(39, "1 more than at the stop", 1, () -> p.laterBack(0, 1, 14));
  }

  private static void laterBackOfLaterStops() {
    DroverPlan p = oneVehicle();
    for (int n = 0; n < 3; n++) {
      p.addJob(1, 1, 1, 0, 0);
    }
    lay(p, 0, "+0-0+1-1+2-2");
    p.setHours(0, false, 17, 100);
    p.setHours(1, true, 20, 100);
    // 7 of waiting at stop 1, then 3 at stop 2, none behind.
    int[] later = {2, 2, 9, 12, 12, 12};
    for (int n = 0; n < 6; n++) {
      int s = n;
      due(39, "12 minutes later at stop " + s, later[s], () -> p.laterBack(0, s, 12));
    }
  }

  // ---- 40: costWithout

  private static void costWithoutRefused() {
    for (int no : outside(0, 0)) {
      idle(40, "job " + no, BOUNDS, Check::onePlanned, p -> p.costWithout(no));
    }
    for (int no : outside(0, 8)) {
      due(40, "job " + no + " of 9", BOUNDS, () -> fullHouse().costWithout(no));
    }
    due(40, "no job there", BOUNDS, () -> new DroverPlan().costWithout(0));
  }

  private static void costWithoutOneJob() {
    idle(40, "the only one, open", 0, Check::oneOpen, p -> p.costWithout(0));
    idle(40, "the only one, planned", 0, Check::onePlanned, p -> p.costWithout(0));
    idle(40, "the last one of a route, and of its price for being used", 30, () -> {
      DroverPlan p = line();
      p.addVehicle(0, 10, 0, 1440, 9, 200);
      p.addJob(1, 1, 1, 0, 999);
      p.addJob(1, 1, 1, 0, 30);
      p.insert(0);
      return p;
    }, p -> p.costWithout(0));
    DroverPlan p = onePlanned();
    p.addJob(4, 4, 1, 0, 70);
    p.addJob(4, 4, 1, 0, 0);
    due(40, "open, with its fine", 40, () -> p.costWithout(1));
    due(40, "open, without a fine", 110, () -> p.costWithout(2));
    due(40, "planned, next to open ones", 70, () -> p.costWithout(0));
    p.insert(1);
    due(40, "on the way of another one", 80, () -> p.costWithout(0));
    due(40, "the farther one", 40, () -> p.costWithout(1));
    due(40, "without vehicles", 5, () -> {
      DroverPlan q = line();
      q.addJob(0, 0, 1, 0, 8);
      q.addJob(0, 0, 1, 0, 5);
      return q.costWithout(0);
    });
  }

  private static void costWithoutSetOrWrong() {
    idle(40, "set", 0, Check::oneSet, p -> p.costWithout(0));
    idle(40, "both stops are set", 0, () -> {
      DroverPlan p = onePlanned();
      p.advance(1440);
      return p;
    }, p -> p.costWithout(0));
    idle(40, "of a route that is not right", 0, () -> {
      DroverPlan p = onePlanned();
      p.setHours(0, true, 0, 9);
      return p;
    }, p -> p.costWithout(0));
    DroverPlan full = fullHouse();
    full.rebuild();
    for (int n = 0; n < 9; n++) {
      int job = n;
      due(40, "one of nine at home", 0, () -> full.costWithout(job));
    }
  }

  // ---- 41: digest

  /** The numbers that the digest is of, each asked for by its own call. */
  private static List<Integer> numbers(DroverPlan p) {
    List<Integer> all = new ArrayList<>(List.of(p.clock(), p.places(), p.vehicles(), p.jobs(),
        p.cost()));
    for (int v = 0; v < p.vehicles(); v++) {
      all.addAll(List.of(p.stops(v), p.setStops(v), p.back(v), p.waits(v), p.isRight(v) ? 1 : 0,
          p.length(v), p.costOf(v)));
      for (int s = 0; s < p.stops(v); s++) {
        all.addAll(List.of(p.jobAt(v, s), p.isFetched(v, s) ? 1 : 0, p.arrives(v, s),
            p.begins(v, s), p.loadBehind(v, s), p.slack(v, s)));
      }
    }
    for (int j = 0; j < p.jobs(); j++) {
      all.addAll(List.of(p.vehicleOf(j), p.isSet(j) ? 1 : 0));
    }
    for (int kind = 0; kind < 4; kind++) {
      all.add(p.gain(kind));
    }
    return all;
  }

  /** The sum as it is, without a wrap. */
  private static BigInteger whole(List<Integer> numbers) {
    BigInteger d = BigInteger.valueOf(58033);
    for (int x : numbers) {
      d = d.multiply(BigInteger.valueOf(31)).add(BigInteger.valueOf(x));
    }
    return d;
  }

  private static void digestOfNothing() {
    // 58033 times 31, nine times, as all nine numbers are 0.
    due(41, "of a new object", 1534370592850220143L, () -> new DroverPlan().digest());
    due(41, "nine numbers", 9, () -> numbers(new DroverPlan()).size());
    DroverPlan p = new DroverPlan();
    p.addPlace(0, 0);
    due(41, "one place counts by 31 seven times", 1534370592850220143L + 27512614111L,
        () -> p.digest());
  }

  /** Nine numbers are below the greatest long yet; with more of them it wraps around. */
  private static void digestWrapsAround() {
    BigInteger most = BigInteger.valueOf(Long.MAX_VALUE);
    BigInteger turn = BigInteger.ONE.shiftLeft(64);
    due(41, "nine numbers are below it", true,
        () -> whole(numbers(new DroverPlan())).compareTo(most) < 0);
    DroverPlan p = line();
    p.addJob(0, 0, 1, 0, 0);
    BigInteger sum = whole(numbers(p));
    due(41, "eleven numbers are above it", true, () -> sum.compareTo(most) > 0);
    due(41, "so it wraps around", sum.mod(turn).longValue(), () -> p.digest());
    due(41, "below 0", true, () -> signsSeen(-1));
    due(41, "above 0", true, () -> signsSeen(1));
  }

  /** Whether a digest of that sign comes up as jobs are added; all of them as they are due. */
  private static boolean signsSeen(int sign) {
    DroverPlan p = line();
    boolean seen = false;
    for (int n = 0; n < 9; n++) {
      p.addJob(n % 8, 0, 1, 0, 7 * n);
      long d = p.digest();
      due(41, "with " + p.jobs() + " jobs", whole(numbers(p)).longValue(), () -> d);
      seen |= Long.signum(d) == sign;
    }
    return seen;
  }

  private static void digestOfAll() {
    List<Supplier<DroverPlan>> all = List.of(Check::oneVehicle, Check::oneOpen, Check::onePlanned,
        Check::oneSet, Check::fullHouse);
    for (Supplier<DroverPlan> made : all) {
      DroverPlan p = made.get();
      due(41, "its numbers one after the other", whole(numbers(p)).longValue(), () -> p.digest());
    }
    DroverPlan full = fullHouse();
    full.rebuild();
    due(41, "18 stops", whole(numbers(full)).longValue(), () -> full.digest());
    full.advance(1440);
    due(41, "18 set stops at 1440", whole(numbers(full)).longValue(), () -> full.digest());

    // A route that is not right: 0 for that, -1 for its slack, -1 for an open job, gains of all.
    DroverPlan p = oneVehicle();
    p.addVehicle(6, 10, 0, 1440, 2, 3);
    p.addJob(1, 1, 1, 0, 0);
    p.addJob(5, 4, 1, 0, 0);
    p.addJob(4, 5, 1, 0, 90);
    p.addJob(2, 5, 1, 0, 0);
    lay(p, 0, "+1-1+3-3");
    lay(p, 1, "+0-0");
    p.setHours(1, true, 60, 70);
    due(41, "waiting, with gains", whole(numbers(p)).longValue(), () -> p.digest());
    p.setHours(0, true, 0, 9);
    due(32, "not right", false, () -> p.isRight(1));
    due(29, "late", -1, () -> p.slack(1, 0));
    due(41, "not right, late, and open", whole(numbers(p)).longValue(), () -> p.digest());
  }

  private static void digestChangesNothing() {
    for (Supplier<DroverPlan> made : List.<Supplier<DroverPlan>>of(DroverPlan::new, Check::oneOpen,
        Check::onePlanned, Check::oneSet, Check::fullHouse)) {
      long due = made.get().digest();
      idle(41, "it changes nothing", due, made, p -> p.digest());
    }
  }

  /** An object is used for at most 512 calls: all of them, the dearest ones among them, hold. */
  private static void manyCalls() {
    DroverPlan p = fullHouse();
    p.rebuild();
    int calls = 12 + 3 + 9 + 1;
    while (calls < 508) {
      due(10, "all out", 9, () -> p.ruin(9));
      due(9, "all in", 9, () -> p.rebuild());
      due(12, "nothing to improve", 0, () -> p.improve(10));
      calls += 3;
    }
    long due = whole(numbersOfFullHouse()).longValue();
    due(41, "the digest at the end", due, () -> p.digest());
    due(35, "the cost at the end", 0, () -> p.cost());
    due(22, "the stops at the end", 18, () -> p.stops(0));
  }

  private static List<Integer> numbersOfFullHouse() {
    DroverPlan p = fullHouse();
    p.rebuild();
    return numbers(p);
  }
}

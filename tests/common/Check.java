import java.util.function.Function;
import java.util.function.Supplier;

/** What the tests of the boundary cases share: answers that are due, and calls that do nothing. */
abstract class Check {
  static final String BOUNDS = "throws.IndexOutOfBoundsException";
  static final String ARGUMENT = "throws.IllegalArgumentException";
  static final String STATE = "throws.IllegalStateException";
  private static int wrong = 0;
  private static int asked = 0;

  private static Object answerOf(Supplier<Object> call) {
    try {
      return call.get();
    } catch (RuntimeException e) {
      return "throws." + e.getClass().getSimpleName();
    }
  }

  static void due(int promise, String what, Object want, Supplier<Object> call) {
    Object got = answerOf(call);
    asked++;
    if (!want.equals(got)) {
      wrong++;
      System.out.println("promise " + promise + ": " + what + "; answered " + got + ", due is " + want);
    }
  }

  /**
   * A call that changes nothing, whether it is refused or finds nothing to do: behind it the object
   * answers as a twin on which it was not called, at once and after later calls.
   */
  static void idle(int promise, String what, Object want, Supplier<DroverPlan> made,
      Function<DroverPlan, Object> call) {
    DroverPlan called = made.get();
    DroverPlan twin = made.get();
    due(promise, what, want, () -> call.apply(called));
    due(promise, what + "; nothing is changed", told(twin), () -> told(called));
    due(promise, what + "; nothing is changed for later calls", later(twin), () -> later(called));
  }

  /** What an object tells of itself; some 80 calls at most, as it is used for 512. */
  static String told(DroverPlan p) {
    StringBuilder text = new StringBuilder();
    text.append(p.digest()).append(' ').append(p.clock()).append(' ').append(p.places());
    text.append(' ').append(p.vehicles()).append(' ').append(p.jobs()).append(' ').append(p.cost());
    text.append(' ').append(p.fullness()).append(" ways");
    for (int n = 0; n < p.places(); n++) {
      text.append(' ').append(p.way(0, n));
    }
    for (int v = 0; v < p.vehicles(); v++) {
      text.append(" vehicle ").append(row(p, v));
    }
    for (int j = 0; j < p.jobs(); j++) {
      int job = j;
      text.append(" job ").append(p.costWithout(job));
      for (int v = 0; v < p.vehicles(); v++) {
        int vehicle = v;
        text.append(' ').append(answerOf(() -> p.wouldAdd(job, vehicle)));
      }
    }
    return text.toString();
  }

  /** Answers of calls that change much; what an object does not tell shows in these. */
  private static String later(DroverPlan p) {
    StringBuilder text = new StringBuilder();
    text.append(answerOf(() -> p.rebuild())).append(' ').append(p.digest());
    text.append(' ').append(answerOf(() -> p.improve(10))).append(' ').append(p.digest());
    text.append(' ').append(answerOf(() -> p.addPlace(1, 1)));
    text.append(' ').append(answerOf(() -> p.addVehicle(0, 9, 3, 900, 2, 1)));
    text.append(' ').append(answerOf(() -> p.addJob(0, 0, 2, 1, 500)));
    text.append(' ').append(answerOf(() -> p.ruin(3))).append(' ').append(p.digest());
    text.append(' ').append(answerOf(() -> p.rebuild())).append(' ').append(p.digest());
    text.append(' ').append(answerOf(() -> p.advance(4))).append(' ').append(told(p));
    return text.toString();
  }

  /** Numbers that are not from least to most: those next to it, and the outermost ones. */
  static int[] outside(int least, int most) {
    return new int[] {least - 1, most + 1, Integer.MIN_VALUE, Integer.MAX_VALUE};
  }

  /** Places 0 to 6 on a line: at 0, 10, 20, 30, 40, 50, 60; place 7 above place 0, at y 10. */
  static DroverPlan line() {
    DroverPlan p = new DroverPlan();
    for (int x = 0; x <= 60; x += 10) {
      p.addPlace(x, 0);
    }
    p.addPlace(0, 10);
    return p;
  }

  /** The line, with a vehicle at place 0 for 10 loads, all day, of price 1, not fixed. */
  static DroverPlan oneVehicle() {
    DroverPlan p = line();
    p.addVehicle(0, 10, 0, 1440, 1, 0);
    return p;
  }

  /** One vehicle, and a job, not planned, from place 1 to 2, of load 3, 5 minutes and fine 100. */
  static DroverPlan oneOpen() {
    DroverPlan p = oneVehicle();
    p.addJob(1, 2, 3, 5, 100);
    return p;
  }

  /** That job planned: fetched from 10 to 15, brought from 25 to 30, back at 50. */
  static DroverPlan onePlanned() {
    DroverPlan p = oneOpen();
    p.insertAt(0, 0, 0, 1);
    return p;
  }

  /** That job set: the vehicle has left its home, and is not yet where it fetches. */
  static DroverPlan oneSet() {
    DroverPlan p = onePlanned();
    p.advance(1);
    return p;
  }

  /**
   * As much as there can be: 12 places, 3 vehicles at one home, 9 jobs from there to there, of
   * load 1, no minutes and fine 10, all of them OPEN.
   */
  static DroverPlan fullHouse() {
    DroverPlan p = new DroverPlan();
    for (int n = 0; n < 12; n++) {
      p.addPlace(5 * n, 60 - 5 * n);
    }
    for (int n = 0; n < 3; n++) {
      p.addVehicle(11, 50, 0, 1440, 1, n);
    }
    for (int n = 0; n < 9; n++) {
      p.addJob(11, 11, 1, 0, 10);
    }
    return p;
  }

  /** The jobs of a route in the order of its stops, "+" where fetched, "-" where brought. */
  static String row(DroverPlan p, int vehicle) {
    StringBuilder text = new StringBuilder();
    for (int s = 0; s < p.stops(vehicle); s++) {
      text.append(p.isFetched(vehicle, s) ? "+" : "-").append(p.jobAt(vehicle, s));
    }
    return text.toString();
  }

  /** Puts open jobs into an empty route, so that it is as row() tells it. */
  static void lay(DroverPlan p, int vehicle, String want) {
    StringBuilder laid = new StringBuilder();
    for (int s = 0; s < want.length(); s += 2) {
      if (want.charAt(s) != '+') {
        continue;
      }
      laid.append(want.charAt(s + 1));
      int i = before(want, s, laid.toString());
      int k = before(want, want.indexOf("-" + want.charAt(s + 1)), laid.toString());
      p.insertAt(want.charAt(s + 1) - '0', vehicle, i, k);
    }
    if (!row(p, vehicle).equals(want)) {
      throw new AssertionError("no route can be " + want + ", it is " + row(p, vehicle));
    }
  }

  /** How many stops ahead of one in a row are those of some jobs. */
  private static int before(String row, int stop, String jobs) {
    int count = 0;
    for (int s = 0; s < stop; s += 2) {
      count += jobs.indexOf(row.charAt(s + 1)) >= 0 ? 1 : 0;
    }
    return count;
  }

  /** Ends the test, with exit code 1 if an answer was not the one that is due. */
  static void end() {
    System.out.println(wrong == 0 ? asked + " answers are as due" : wrong + " answers are not as due");
    System.exit(wrong == 0 ? 0 : 1);
  }
}

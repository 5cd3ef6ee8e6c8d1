/** The boundary cases of promises 6 to 10: jobs are put into routes, and taken out. */
public final class EdgesPutAndTake extends Check {
  public static void main(String[] args) {
    insertRefused();
    insertFindsNone();
    insertAtTheLimits();
    insertAndTheClock();
    insertTies();
    insertSmallestIAheadOfK();
    insertUntilFull();
    insertAtBounds();
    insertAtOrder();
    insertAtAllPlaces();
    insertAtNotAllowed();
    insertAtAndOtherRoutes();
    insertAtAndSetStops();
    takeRefused();
    takeAtTheLimits();
    takeAndRight();
    rebuildDoesNothing();
    rebuildAndFine();
    rebuildByRegret();
    rebuildByRegretOfTwo();
    rebuildAsOthersLeave();
    rebuildFull();
    ruinRefused();
    ruinAtMost();
    ruinByCost();
    ruinAndSet();
    end();
  }

  // ---- 6: insert

  private static void insertRefused() {
    for (int no : outside(0, 0)) {
      idle(6, "job " + no, BOUNDS, Check::oneOpen, p -> p.insert(no));
      idle(6, "job " + no + ", one planned", BOUNDS, Check::onePlanned, p -> p.insert(no));
    }
    for (int no : outside(0, 8)) {
      idle(6, "job " + no + " of 9", BOUNDS, Check::fullHouse, p -> p.insert(no));
    }
    idle(6, "a planned job", STATE, Check::onePlanned, p -> p.insert(0));
    idle(6, "a set job", STATE, Check::oneSet, p -> p.insert(0));
  }

  /** The line, a vehicle as told, and an open job from place 1 to 2 that takes no minutes. */
  private static DroverPlan made(int capacity, int from, int to) {
    DroverPlan p = line();
    p.addVehicle(0, capacity, from, to, 1, 0);
    p.addJob(1, 2, 3, 0, 100);
    return p;
  }

  private static void insertFindsNone() {
    idle(6, "without vehicles", -1, () -> {
      DroverPlan p = line();
      p.addJob(1, 2, 3, 0, 100);
      return p;
    }, p -> p.insert(0));
    idle(6, "load one above the capacity", -1, () -> made(2, 0, 1440), p -> p.insert(0));
    idle(6, "back a minute late", -1, () -> made(3, 0, 39), p -> p.insert(0));
    idle(6, "leaving a minute late", -1, () -> made(3, 1401, 1440), p -> p.insert(0));
    idle(6, "fetched a minute late", -1, () -> {
      DroverPlan p = made(3, 0, 1440);
      p.setHours(0, true, 0, 9);
      return p;
    }, p -> p.insert(0));
    idle(6, "brought a minute late", -1, () -> {
      DroverPlan p = made(3, 0, 1440);
      p.setHours(0, false, 0, 19);
      return p;
    }, p -> p.insert(0));
    idle(6, "a route that is not right", -1, () -> {
      DroverPlan p = onePlanned();
      p.setHours(0, true, 0, 9);
      p.addJob(2, 2, 1, 0, 0);
      return p;
    }, p -> p.insert(1));
  }

  private static void insertAtTheLimits() {
    due(6, "load as the capacity", 40, () -> made(3, 0, 1440).insert(0));
    due(6, "back at the last minute", 40, () -> made(3, 0, 40).insert(0));
    due(6, "leaving at the last minute", 40, () -> made(3, 1400, 1440).insert(0));
    DroverPlan p = made(3, 0, 40);
    p.setHours(0, true, 0, 10);
    p.setHours(0, false, 0, 20);
    due(6, "fetched and brought at the last minute", 40, () -> p.insert(0));
    p.addJob(1, 1, 1, 0, 0);
    due(6, "no minute is left, nor needed", 0, () -> p.insert(1));
    p.addJob(1, 1, 1, 1, 0);
    due(6, "no minute is left for it", -1, () -> p.insert(2));
    p.addJob(6, 6, 4, 0, 0);
    due(6, "nothing for a load above the capacity", -1, () -> p.insert(3));
  }

  private static void insertAndTheClock() {
    for (int later = 0; later <= 1; later++) {
      DroverPlan home = made(3, 5, 1440);
      home.advance(5 + later);
      Object want = later == 0 ? 40 : -1;
      due(6, "it leaves home " + later + " below the clock", want, () -> home.insert(0));

      // Its last stop is left at 30; it is home at 50.
      DroverPlan last = onePlanned();
      last.addJob(2, 2, 1, 0, 0);
      last.advance(30 + later);
      Object due = later == 0 ? 0 : -1;
      due(6, "all stops are set", 2, () -> last.setStops(0));
      due(6, "it leaves the last stop " + later + " below the clock", due, () -> last.insert(1));
      due(6, "behind those that are set", later == 0 ? "+0-0+1-1" : "+0-0", () -> row(last, 0));
      due(6, "no other stop is set", 2, () -> last.setStops(0));
    }
    // The last minute of all: a vehicle that leaves at 1440 has not left below the clock.
    DroverPlan end = line();
    end.addVehicle(0, 10, 1439, 1440, 1, 0);
    end.addVehicle(0, 10, 1440, 1440, 1, 0);
    end.advance(1440);
    due(4, "jobs can be told at 1440", 0, () -> end.addJob(0, 0, 1, 0, 9));
    due(37, "it left at 1439", -1, () -> end.wouldAdd(0, 0));
    due(6, "it leaves at 1440", 0, () -> end.insert(0));
    due(20, "by that one", 1, () -> end.vehicleOf(0));
    due(21, "it cannot be set any more", false, () -> end.isSet(0));
    due(8, "so it can be taken out", 0, () -> end.take(0));

    // Fetching is on the way to the stop that is set; it comes behind it all the same.
    DroverPlan p = oneSet();
    p.addJob(1, 1, 1, 0, 0);
    due(6, "behind the set stop", 0, () -> p.insert(1));
    due(6, "order", "+0+1-1-0", () -> row(p, 0));
    due(6, "one is set still", 1, () -> p.setStops(0));
  }

  private static void insertTies() {
    DroverPlan p = line();
    p.addVehicle(0, 10, 0, 1440, 2, 0);
    p.addVehicle(0, 10, 0, 1440, 1, 19);
    p.addVehicle(0, 10, 0, 1440, 1, 20);
    p.addJob(1, 1, 1, 0, 0);
    due(6, "40, 39 or 40: the one that adds least", 39, () -> p.insert(0));
    due(6, "by the second vehicle", 1, () -> p.vehicleOf(0));

    DroverPlan q = line();
    q.addVehicle(0, 10, 0, 1440, 2, 0);
    q.addVehicle(0, 10, 0, 1440, 1, 20);
    q.addVehicle(0, 10, 0, 1440, 1, 20);
    q.addJob(1, 1, 1, 0, 0);
    due(6, "40 for all", 40, () -> q.insert(0));
    due(6, "the vehicle with the smallest number", 0, () -> q.vehicleOf(0));
    q.addJob(7, 7, 9, 0, 0);
    q.addJob(7, 7, 10, 0, 0);
    q.insertAt(2, 1, 0, 1);
    due(6, "behind the other one, or at another vehicle", 0, () -> q.insert(1));
    due(6, "what adds least, with a greater number", 1, () -> q.vehicleOf(1));

    // Into the first route only behind its two stops, into the empty one at once: 20 each.
    DroverPlan r = line();
    r.addVehicle(0, 10, 0, 1440, 1, 0);
    r.addVehicle(0, 10, 0, 1440, 1, 0);
    r.addJob(7, 7, 1, 0, 0);
    r.addJob(1, 1, 1, 0, 0);
    r.setHours(0, true, 10, 10);
    r.insertAt(0, 0, 0, 1);
    due(6, "20 each", 20, () -> r.insert(1));
    due(6, "the vehicle counts ahead of i", "+0-0+1-1", () -> row(r, 0));
  }

  /**
   * Job 0 is fetched at 10, takes 5 minutes each, and must be brought by 35; job 1 has the same
   * places, and is fetched from 15 on. It can be put round job 0, at 0 and 3, or into it, at 1 and
   * 2; at 0 and 2 it would make job 0 late, as the vehicle waits for it, and at 0 and 1 as well.
   */
  private static void insertSmallestIAheadOfK() {
    DroverPlan p = oneVehicle();
    p.addJob(1, 2, 1, 5, 0);
    p.addJob(1, 2, 1, 5, 0);
    p.setHours(0, false, 0, 35);
    p.setHours(1, true, 15, 1440);
    p.insertAt(0, 0, 0, 1);
    due(6, "at 0 and 2 it is late", -1, () -> p.insertAt(1, 0, 0, 2));
    due(6, "at 0 and 1 it is late", -1, () -> p.insertAt(1, 0, 0, 1));
    due(6, "at 1 and 2 it is in time", 0, () -> p.insertAt(1, 0, 1, 2));
    p.take(1);
    due(6, "on the way", 0, () -> p.insert(1));
    due(6, "the smallest i, though its k is greater", "+1+0-0-1", () -> row(p, 0));

    DroverPlan q = oneVehicle();
    q.addJob(1, 2, 1, 5, 0);
    q.addJob(1, 2, 1, 5, 0);
    q.insertAt(0, 0, 0, 1);
    due(6, "on the way, without hours", 0, () -> q.insert(1));
    due(6, "the smallest k of the smallest i", "+1+0-1-0", () -> row(q, 0));
  }

  private static void insertUntilFull() {
    DroverPlan p = fullHouse();
    for (int n = 0; n < 9; n++) {
      int job = n;
      due(6, "it adds nothing", 0, () -> p.insert(job));
      due(6, "two more stops", 2 * job + 2, () -> p.stops(0));
    }
    due(6, "all nine in one route, each ahead of the others",
        "+8-8+7-7+6-6+5-5+4-4+3-3+2-2+1-1+0-0", () -> row(p, 0));
    due(6, "the last one of 18 stops", 0, () -> p.jobAt(0, 17));
    due(6, "there is no nineteenth", BOUNDS, () -> p.jobAt(0, 18));
    due(6, "planned", STATE, () -> p.insert(8));
    due(6, "none gains", 0, () -> p.gain(0) + p.gain(1) + p.gain(2) + p.gain(3));
  }

  // ---- 7: insertAt

  private static void insertAtBounds() {
    for (int no : outside(0, 0)) {
      idle(7, "job " + no, BOUNDS, Check::oneOpen, p -> p.insertAt(no, 0, 0, 1));
      idle(7, "vehicle " + no, BOUNDS, Check::oneOpen, p -> p.insertAt(0, no, 0, 1));
      idle(7, "i " + no, ARGUMENT, Check::oneOpen, p -> p.insertAt(0, 0, no, 1));
    }
    for (int no : outside(1, 1)) {
      idle(7, "k " + no, ARGUMENT, Check::oneOpen, p -> p.insertAt(0, 0, 0, no));
    }
    int[][] pairs = {{-1, 0}, {0, 0}, {1, 1}, {2, 2}, {3, 3}, {1, 0}, {2, 1}, {3, 0}, {0, 4}, {1, 4},
      {2, 4}, {3, 4}, {4, 5}, {-1, 4}, {Integer.MIN_VALUE, 1}, {0, Integer.MAX_VALUE},
      {Integer.MIN_VALUE, Integer.MAX_VALUE}, {Integer.MAX_VALUE, Integer.MIN_VALUE},
      {Integer.MAX_VALUE, Integer.MAX_VALUE}, {0, Integer.MIN_VALUE}};
    for (int[] pair : pairs) {
      idle(7, "i " + pair[0] + ", k " + pair[1], ARGUMENT, EdgesPutAndTake::twoStopsAndOpen,
          p -> p.insertAt(1, 0, pair[0], pair[1]));
    }
  }

  /** A route with two stops, and an open job 1 that takes no minutes, at the place of the first. */
  private static DroverPlan twoStopsAndOpen() {
    DroverPlan p = onePlanned();
    p.addJob(1, 1, 1, 0, 100);
    return p;
  }

  /** Of several exceptions the one that is named first. */
  private static void insertAtOrder() {
    idle(7, "job, i and k", BOUNDS, Check::oneOpen, p -> p.insertAt(1, 0, 1, 0));
    idle(7, "vehicle, i and k", BOUNDS, Check::oneOpen, p -> p.insertAt(0, 1, 1, 0));
    idle(7, "vehicle, and planned", BOUNDS, Check::onePlanned, p -> p.insertAt(0, 1, 0, 1));
    idle(7, "vehicle, i and k, and planned", BOUNDS, Check::onePlanned,
        p -> p.insertAt(0, -1, 0, 9));
    idle(7, "i and k, and planned", ARGUMENT, Check::onePlanned, p -> p.insertAt(0, 0, 0, 4));
    idle(7, "i as k, and set", ARGUMENT, Check::oneSet, p -> p.insertAt(0, 0, 1, 1));
    idle(7, "planned", STATE, Check::onePlanned, p -> p.insertAt(0, 0, 0, 1));
    idle(7, "planned, at the end of the route", STATE, Check::onePlanned,
        p -> p.insertAt(0, 0, 2, 3));
    idle(7, "set", STATE, Check::oneSet, p -> p.insertAt(0, 0, 2, 3));
    idle(7, "planned, into another route", STATE, () -> {
      DroverPlan p = onePlanned();
      p.addVehicle(0, 9, 0, 1440, 1, 0);
      return p;
    }, p -> p.insertAt(0, 1, 0, 1));
    idle(7, "k beyond the other route, and planned", ARGUMENT, () -> {
      DroverPlan p = onePlanned();
      p.addVehicle(0, 9, 0, 1440, 1, 0);
      return p;
    }, p -> p.insertAt(0, 1, 0, 2));
  }

  /** 0 <= i < k <= n + 1: all of them for n 2, and the outermost ones for n 0 and 16. */
  private static void insertAtAllPlaces() {
    int[][] pairs = {{0, 1}, {0, 2}, {0, 3}, {1, 2}, {1, 3}, {2, 3}};
    String[] rows = {"+1-1+0-0", "+1+0-1-0", "+1+0-0-1", "+0+1-1-0", "+0+1-0-1", "+0-0+1-1"};
    int[] adds = {0, 0, 0, 0, 0, 0};
    for (int n = 0; n < pairs.length; n++) {
      DroverPlan p = twoStopsAndOpen();
      int[] pair = pairs[n];
      due(7, "i " + pair[0] + ", k " + pair[1], adds[n], () -> p.insertAt(1, 0, pair[0], pair[1]));
      due(7, "the order", rows[n], () -> row(p, 0));
    }
    DroverPlan p = fullHouse();
    due(7, "into an empty route, with the price for being used", 1, () -> p.insertAt(0, 1, 0, 1));
    for (int n = 1; n < 8; n++) {
      p.insertAt(n, 1, 2 * n, 2 * n + 1);
    }
    due(7, "n 16, k 18", ARGUMENT, () -> p.insertAt(8, 1, 0, 18));
    due(7, "n 16, k 17", 0, () -> p.insertAt(8, 1, 0, 17));
    due(7, "first and last", "+8+0-0+1-1+2-2+3-3+4-4+5-5+6-6+7-7-8", () -> row(p, 1));
  }

  private static void insertAtNotAllowed() {
    idle(7, "load one above the capacity", -1, () -> made(2, 0, 1440), p -> p.insertAt(0, 0, 0, 1));
    idle(7, "back a minute late", -1, () -> made(3, 0, 39), p -> p.insertAt(0, 0, 0, 1));
    due(7, "back at the last minute", 40, () -> made(3, 0, 40).insertAt(0, 0, 0, 1));
    DroverPlan p = made(3, 0, 1440);
    p.setHours(0, true, 0, 9);
    due(7, "fetched a minute late", -1, () -> p.insertAt(0, 0, 0, 1));
    p.setHours(0, true, 0, 10);
    p.setHours(0, false, 0, 19);
    due(7, "brought a minute late", -1, () -> p.insertAt(0, 0, 0, 1));
    p.setHours(0, false, 0, 20);
    due(7, "both at the last minute", 40, () -> p.insertAt(0, 0, 0, 1));
    p.addJob(1, 1, 1, 1, 0);
    due(7, "ahead, it makes the other one late", -1, () -> p.insertAt(1, 0, 0, 1));
    due(7, "behind it, it makes the load too much", -1, () -> p.insertAt(1, 0, 1, 2));
    due(7, "at the end", 0, () -> p.insertAt(1, 0, 2, 3));
  }

  /** It is the route itself that must be right then, whether others are or not. */
  private static void insertAtAndOtherRoutes() {
    DroverPlan p = onePlanned();
    p.addVehicle(0, 10, 0, 1440, 1, 0);
    p.setHours(0, true, 0, 9);
    p.addJob(1, 1, 1, 0, 100);
    due(7, "at the end of a route that is not right", -1, () -> p.insertAt(1, 0, 2, 3));
    due(7, "ahead in it", -1, () -> p.insertAt(1, 0, 0, 1));
    due(7, "it is open still", -1, () -> p.vehicleOf(1));
    due(7, "into a route that is right, next to one that is not", 20,
        () -> p.insertAt(1, 1, 0, 1));
  }

  private static void insertAtAndSetStops() {
    DroverPlan p = twoStopsAndOpen();
    p.advance(1);
    due(7, "one is set", 1, () -> p.setStops(0));
    due(7, "ahead of it", -1, () -> p.insertAt(1, 0, 0, 1));
    due(7, "ahead of it, k behind", -1, () -> p.insertAt(1, 0, 0, 3));
    due(7, "behind it, ahead of where its job is brought", 0, () -> p.insertAt(1, 0, 1, 2));
    due(7, "order", "+0+1-1-0", () -> row(p, 0));
    p.take(1);
    p.advance(15);
    due(7, "two are set", 2, () -> p.setStops(0));
    due(7, "ahead of the second one", -1, () -> p.insertAt(1, 0, 1, 3));
    p.advance(14);
    due(7, "the clock is where it leaves the last stop", 30, () -> p.clock());
    due(7, "behind the second one", 0, () -> p.insertAt(1, 0, 2, 3));
    due(7, "no other stop is set", 2, () -> p.setStops(0));
    p.take(1);
    p.advance(1);
    due(7, "it has left the last stop below the clock", -1, () -> p.insertAt(1, 0, 2, 3));

    DroverPlan q = made(3, 5, 1440);
    q.advance(5);
    due(7, "it leaves its home at the clock", 40, () -> q.insertAt(0, 0, 0, 1));
    q.take(0);
    q.advance(1);
    due(7, "it has left its home below the clock", -1, () -> q.insertAt(0, 0, 0, 1));
    q.addVehicle(0, 10, 5, 1440, 1, 0);
    q.addVehicle(0, 10, 6, 1440, 1, 0);
    due(7, "one that is told later", -1, () -> q.insertAt(0, 1, 0, 1));
    due(7, "one that leaves at the clock", 40, () -> q.insertAt(0, 2, 0, 1));
  }

  // ---- 8: take

  private static void takeRefused() {
    for (int no : outside(0, 0)) {
      idle(8, "job " + no, BOUNDS, Check::onePlanned, p -> p.take(no));
    }
    for (int no : outside(0, 8)) {
      idle(8, "job " + no + " of 9", BOUNDS, Check::fullHouse, p -> p.take(no));
    }
    idle(8, "an open job", STATE, Check::oneOpen, p -> p.take(0));
    idle(8, "a job whose first stop is set", STATE, Check::oneSet, p -> p.take(0));
    idle(8, "a job both of whose stops are set", STATE, () -> {
      DroverPlan p = onePlanned();
      p.advance(16);
      return p;
    }, p -> p.take(0));
  }

  private static void takeAtTheLimits() {
    DroverPlan p = line();
    p.addVehicle(0, 10, 0, 1440, 9, 200);
    p.addJob(1, 2, 1, 0, 100);
    p.addJob(1, 1, 1, 0, 100);
    p.insertAt(0, 0, 0, 1);
    p.insertAt(1, 0, 1, 2);
    due(8, "on the way, it saves nothing", 0, () -> p.take(1));
    due(8, "both its stops are out", "+0-0", () -> row(p, 0));
    due(8, "it is open", -1, () -> p.vehicleOf(1));
    due(8, "the last one of the route", 9 * 40 + 200, () -> p.take(0));
    due(8, "without stops", 0, () -> p.stops(0));
    due(8, "without cost, but for the fines", 200, () -> p.cost());
    due(8, "it is open already", STATE, () -> p.take(0));
    due(8, "it can be put again", 560, () -> p.insert(0));

    // The clock is where the vehicle leaves the first stop, so the second one is not set.
    DroverPlan q = oneVehicle();
    q.addJob(0, 0, 1, 7, 100);
    q.addJob(1, 1, 1, 0, 100);
    q.insertAt(0, 0, 0, 1);
    q.insertAt(1, 0, 1, 2);
    q.advance(7);
    due(8, "it is not set at the clock", 20, () -> q.take(1));
    q.insertAt(1, 0, 1, 2);
    q.advance(1);
    due(8, "it is set a minute later", STATE, () -> q.take(1));
  }

  /** The route need not be right, ahead or behind. */
  private static void takeAndRight() {
    DroverPlan p = onePlanned();
    p.addJob(3, 3, 1, 0, 100);
    p.insertAt(1, 0, 2, 3);
    p.setHours(0, true, 0, 9);
    due(8, "not right ahead", false, () -> p.isRight(0));
    due(8, "out of a route that is not right, nor is then", 20, () -> p.take(1));
    due(8, "not right behind", false, () -> p.isRight(0));
    due(8, "the one that makes it so", 40, () -> p.take(0));
    due(8, "right without stops", true, () -> p.isRight(0));
  }

  // ---- 9: rebuild

  private static void rebuildDoesNothing() {
    idle(9, "without jobs", 0, Check::oneVehicle, p -> p.rebuild());
    idle(9, "all are planned", 0, Check::onePlanned, p -> p.rebuild());
    idle(9, "all are set", 0, Check::oneSet, p -> p.rebuild());
    idle(9, "without vehicles", 0, () -> {
      DroverPlan p = line();
      p.addJob(1, 2, 1, 0, 999);
      return p;
    }, p -> p.rebuild());
    idle(9, "without an insertion", 0, () -> made(2, 0, 1440), p -> p.rebuild());
    idle(9, "it has left its home", 0, () -> {
      DroverPlan p = oneOpen();
      p.advance(1);
      return p;
    }, p -> p.rebuild());
  }

  /** It must add less than the fine. */
  private static void rebuildAndFine() {
    for (int fine = 19; fine <= 21; fine++) {
      DroverPlan p = oneVehicle();
      p.addJob(1, 1, 1, 0, fine);
      due(9, "20, fine " + fine, fine > 20 ? 1 : 0, () -> p.rebuild());
      due(9, "where it is", fine > 20 ? 0 : -1, () -> p.vehicleOf(0));
    }
    DroverPlan p = oneVehicle();
    p.addJob(0, 0, 1, 0, 0);
    due(9, "0 is not less than 0", 0, () -> p.rebuild());
    p.addJob(0, 0, 1, 0, 1);
    due(9, "0 is less than 1", 1, () -> p.rebuild());
    due(9, "only that one", -1, () -> p.vehicleOf(0));

    // Job 1 adds 20 less than its fine once job 0 is there; by itself it adds 40.
    DroverPlan q = oneVehicle();
    q.addJob(2, 2, 1, 0, 21);
    q.addJob(1, 1, 1, 0, 999);
    due(9, "then also the one that added too much", 2, () -> q.rebuild());
    due(9, "it adds 20 behind the first", 40, () -> q.cost());
  }

  /**
   * Three vehicles at home, of price 1, 2 and 9, the second one of capacity 5, and jobs at place 1:
   * they add 20, 40 and 180. The one that is put later comes ahead in the route, as it adds nothing.
   */
  private static DroverPlan threePrices(int second, int third) {
    DroverPlan p = line();
    p.addVehicle(0, 20, 0, 1440, 1, 0);
    p.addVehicle(0, second, 0, 1440, 2, 0);
    p.addVehicle(0, third, 0, 1440, 9, 0);
    return p;
  }

  private static void rebuildByRegret() {
    DroverPlan p = threePrices(5, 20);
    p.addJob(1, 1, 1, 0, 999);
    p.addJob(1, 1, 6, 0, 999);
    due(9, "both", 2, () -> p.rebuild());
    due(9, "regret 160 ahead of 20, not the third vehicle's", "+0-0+1-1", () -> row(p, 0));

    DroverPlan q = threePrices(5, 5);
    q.addJob(1, 1, 5, 0, 999);
    q.addJob(1, 1, 6, 0, 999);
    due(9, "both, one into one vehicle only", 2, () -> q.rebuild());
    due(9, "9999 ahead of 20", "+0-0+1-1", () -> row(q, 0));

    // The far job has a regret of 960 by the second vehicle, the near one no second vehicle.
    DroverPlan r = line();
    r.addVehicle(0, 20, 0, 1440, 1, 0);
    r.addVehicle(0, 5, 0, 1440, 9, 0);
    r.addJob(6, 6, 5, 0, 999);
    r.addJob(1, 1, 6, 0, 999);
    due(9, "both, one of them far", 2, () -> r.rebuild());
    due(9, "9999 ahead of 960, then the far one round the other", "+0-0+1-1", () -> row(r, 0));

    DroverPlan s = threePrices(5, 5);
    s.addJob(1, 1, 1, 0, 999);
    s.addJob(1, 1, 1, 0, 999);
    due(9, "both alike", 2, () -> s.rebuild());
    due(9, "the smallest number ahead", "+1-1+0-0", () -> row(s, 0));

    DroverPlan t = threePrices(5, 5);
    t.addJob(2, 2, 6, 0, 999);
    t.addJob(1, 1, 6, 0, 999);
    due(9, "9999 for both", 2, () -> t.rebuild());
    due(9, "the one that adds less is first, so it is behind", "+0-0+1-1", () -> row(t, 0));

    // Two vehicles alike: regret 0 for job 0, though the third one would add more; 20 for job 1.
    DroverPlan u = line();
    u.addVehicle(0, 20, 0, 1440, 1, 0);
    u.addVehicle(0, 5, 0, 1440, 1, 0);
    u.addVehicle(0, 20, 0, 1440, 2, 0);
    u.addJob(1, 1, 1, 0, 999);
    u.addJob(1, 1, 6, 0, 999);
    due(9, "both, one with two alike", 2, () -> u.rebuild());
    due(9, "20 ahead of 0", "+0-0+1-1", () -> row(u, 0));
    due(9, "none elsewhere", 0, () -> u.stops(1) + u.stops(2));
  }

  /** The best vehicle's number can be above that of the second best, and both ways may be long. */
  private static void rebuildByRegretOfTwo() {
    // Job 0 adds 40, 20 and 60: regret 20; job 1 is too much for vehicle 0: regret 40.
    DroverPlan p = line();
    p.addVehicle(0, 5, 0, 1440, 2, 0);
    p.addVehicle(0, 20, 0, 1440, 1, 0);
    p.addVehicle(0, 20, 0, 1440, 3, 0);
    p.addJob(1, 1, 1, 0, 999);
    p.addJob(1, 1, 6, 0, 999);
    due(9, "both into the second route", 2, () -> p.rebuild());
    due(9, "regret 40 ahead of 20", "+0-0+1-1", () -> row(p, 1));

    // Job 0, at 20 and 10, adds 60 or 100; job 1, at 10 and 0, adds 20 or 100.
    DroverPlan q = line();
    q.addPlace(20, 10);
    q.addVehicle(0, 20, 0, 1440, 1, 0);
    q.addVehicle(6, 20, 0, 1440, 1, 0);
    q.addJob(8, 8, 1, 0, 999);
    q.addJob(1, 1, 1, 0, 999);
    due(9, "both into the first route", 2, () -> q.rebuild());
    due(9, "what the other one adds more, not both together", "+0-0+1-1", () -> row(q, 0));
  }

  /** What regret and what it adds are looked at anew behind each job. */
  private static void rebuildAsOthersLeave() {
    DroverPlan p = line();
    p.addVehicle(0, 20, 0, 1440, 2, 0);
    p.addVehicle(0, 20, 0, 1440, 1, 0);
    p.addVehicle(0, 5, 0, 1440, 9, 0);
    p.addJob(1, 1, 1, 0, 999);
    p.addJob(2, 2, 6, 0, 999);
    p.addJob(1, 1, 1, 0, 10);
    due(9, "all three", 3, () -> p.rebuild());
    due(9, "regret 40, then the others, the smallest number ahead", "+2-2+0-0+1-1", () -> row(p, 1));
    due(9, "none for the others", 0, () -> p.stops(0) + p.stops(2));
    due(9, "the cost", 40, () -> p.cost());
  }

  private static void rebuildFull() {
    DroverPlan p = fullHouse();
    due(9, "all nine", 9, () -> p.rebuild());
    due(9, "in one route", 18, () -> p.stops(0));
    due(9, "no fines", 0, () -> p.cost());
    due(9, "no more", 0, () -> p.rebuild());
    due(9, "taken out again", 9, () -> p.ruin(9));
    due(9, "all fines", 90, () -> p.cost());
    due(9, "put again", 9, () -> p.rebuild());
  }

  // ---- 10: ruin

  private static void ruinRefused() {
    for (int no : outside(1, 9)) {
      idle(10, "many " + no, ARGUMENT, Check::onePlanned, p -> p.ruin(no));
      idle(10, "many " + no + ", nothing there", ARGUMENT, DroverPlan::new, p -> p.ruin(no));
    }
    for (int many = 1; many <= 9; many += 8) {
      int m = many;
      idle(10, "open jobs only", 0, Check::fullHouse, p -> p.ruin(m));
      idle(10, "set jobs only", 0, Check::oneSet, p -> p.ruin(m));
    }
  }

  private static void ruinAtMost() {
    for (int many = 1; many <= 9; many++) {
      DroverPlan p = fullHouse();
      p.rebuild();
      int m = many;
      due(10, "as many as told", m, () -> p.ruin(m));
      due(10, "those are out", 18 - 2 * m, () -> p.stops(0));
      due(10, "the smallest numbers, as all are alike", -1, () -> p.vehicleOf(m - 1));
      due(10, "the others stay", m < 9 ? 0 : -1, () -> p.vehicleOf(8));
    }
    DroverPlan p = onePlanned();
    due(10, "as many as there are", 1, () -> p.ruin(9));
  }

  private static void ruinByCost() {
    // Vehicle 0 costs 200 for a job at home, vehicle 1 has 9 times 20 for one at place 1.
    DroverPlan p = line();
    p.addVehicle(0, 10, 0, 1440, 1, 180);
    p.addVehicle(0, 10, 0, 1440, 9, 0);
    p.addJob(1, 1, 1, 0, 0);
    p.addJob(0, 0, 1, 0, 0);
    p.insertAt(0, 1, 0, 1);
    p.insertAt(1, 0, 0, 1);
    due(10, "180 each", 1, () -> p.ruin(1));
    due(10, "the smallest number, at the greater vehicle", -1, () -> p.vehicleOf(0));
    due(10, "the other one stays", 0, () -> p.vehicleOf(1));

    DroverPlan q = line();
    q.addVehicle(0, 10, 0, 1440, 1, 181);
    q.addVehicle(0, 10, 0, 1440, 9, 0);
    q.addJob(1, 1, 1, 0, 0);
    q.addJob(0, 0, 1, 0, 0);
    q.insertAt(0, 1, 0, 1);
    q.insertAt(1, 0, 0, 1);
    due(10, "180 or 181", 1, () -> q.ruin(1));
    due(10, "the one that saves by most", -1, () -> q.vehicleOf(1));
    due(10, "the other one is there still", 1, () -> q.vehicleOf(0));

    // At 10, 20 and 30: jobs 0 and 1 save nothing, then 1, then 0 is the farthest one.
    DroverPlan r = oneVehicle();
    for (int n = 0; n < 3; n++) {
      r.addJob(n + 1, n + 1, 1, 0, 0);
      r.insertAt(n, 0, 2 * n, 2 * n + 1);
    }
    due(10, "the farthest ones, one after the other", 2, () -> r.ruin(2));
    due(10, "the nearest one is left", "+0-0", () -> row(r, 0));

    // Jobs 0 and 1 save 20 and 40, and their fines are 0 and 999.
    DroverPlan fines = oneVehicle();
    fines.addJob(1, 1, 1, 0, 0);
    fines.addJob(3, 3, 1, 0, 999);
    lay(fines, 0, "+0-0+1-1");
    due(10, "the cost of its route counts, not the fine", 1, () -> fines.ruin(1));
    due(10, "the one that saves 40", "+0-0", () -> row(fines, 0));

    // Jobs 1 and 2 save 40 and 20, of a route that is not right.
    DroverPlan s = oneVehicle();
    s.addJob(1, 1, 1, 0, 0);
    s.addJob(4, 4, 1, 0, 0);
    s.addJob(2, 2, 1, 0, 0);
    s.insertAt(0, 0, 0, 1);
    s.insertAt(1, 0, 2, 3);
    s.insertAt(2, 0, 4, 5);
    s.setHours(0, true, 0, 9);
    due(10, "not the last of those that save", 1, () -> s.ruin(1));
    due(10, "the second one, of a route that is not right", "+0-0+2-2", () -> row(s, 0));
  }

  private static void ruinAndSet() {
    DroverPlan p = oneVehicle();
    p.addJob(5, 5, 1, 0, 0);
    p.addJob(1, 1, 1, 0, 0);
    p.insertAt(0, 0, 0, 1);
    p.insertAt(1, 0, 2, 3);
    p.advance(1);
    due(10, "only the one that is not set, though it saves nothing", 1, () -> p.ruin(2));
    due(10, "the set one stays", "+0-0", () -> row(p, 0));
    due(10, "its stop is set still", 1, () -> p.setStops(0));
  }
}

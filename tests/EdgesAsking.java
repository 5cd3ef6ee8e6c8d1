import java.util.function.Supplier;

/** The boundary cases of promises 15 to 36: asking. */
public final class EdgesAsking extends Check {
  public static void main(String[] args) {
    counts();
    clockFromFirstToLast();
    wayBounds();
    wayValues();
    jobBounds();
    jobValues();
    vehicleBounds();
    stopBounds();
    stopsOfRoute();
    times();
    loads();
    slackBounds();
    slackAndHoursThatBegin();
    slackLate();
    slackWithoutLoad();
    emptyRoute();
    waits();
    rightAtTheLimits();
    lengthAndCost();
    costOfAll();
    fullness();
    inTurn();
    askingChangesNothing();
    end();
  }

  // ---- 15 to 18: the clock, and how many there are

  private static void counts() {
    due(16, "no places", 0, () -> new DroverPlan().places());
    due(17, "no vehicles", 0, () -> new DroverPlan().vehicles());
    due(18, "no jobs", 0, () -> new DroverPlan().jobs());
    due(16, "all places", 12, () -> fullHouse().places());
    due(17, "all vehicles", 3, () -> fullHouse().vehicles());
    due(18, "all jobs", 9, () -> fullHouse().jobs());
    due(18, "jobs that are open, planned or set", 1, () -> oneSet().jobs());
  }

  private static void clockFromFirstToLast() {
    DroverPlan p = new DroverPlan();
    due(15, "at first", 0, () -> p.clock());
    p.advance(1);
    due(15, "a minute later", 1, () -> p.clock());
    p.advance(1439);
    due(15, "at last", 1440, () -> p.clock());
  }

  // ---- 19: way

  private static void wayBounds() {
    for (int no : outside(0, 7)) {
      idle(19, "from " + no, BOUNDS, Check::onePlanned, p -> p.way(no, 0));
      idle(19, "to " + no, BOUNDS, Check::onePlanned, p -> p.way(0, no));
      idle(19, "both " + no, BOUNDS, Check::onePlanned, p -> p.way(no, no));
    }
    for (int no : outside(0, 11)) {
      due(19, "from " + no + " of 12", BOUNDS, () -> fullHouse().way(no, 11));
      due(19, "to " + no + " of 12", BOUNDS, () -> fullHouse().way(11, no));
    }
    for (int no = 8; no < 12; no++) {
      int place = no;
      due(19, "from a place that could be", BOUNDS, () -> line().way(place, 0));
      due(19, "to a place that could be", BOUNDS, () -> line().way(0, place));
    }
  }

  private static void wayValues() {
    DroverPlan p = fullHouse();
    for (int n = 0; n < 12; n++) {
      int place = n;
      due(19, "to itself", 0, () -> p.way(place, place));
      due(19, "5 along x and 5 along y each", 10 * (11 - place), () -> p.way(place, 11));
      due(19, "as long the other way", 10 * (11 - place), () -> p.way(11, place));
    }
    DroverPlan q = new DroverPlan();
    q.addPlace(60, 60);
    q.addPlace(0, 0);
    q.addPlace(60, 0);
    due(19, "the longest", 120, () -> q.way(0, 1));
    due(19, "along y only", 60, () -> q.way(0, 2));
    due(19, "along x only", 60, () -> q.way(1, 2));
  }

  // ---- 20 and 21: of a job

  private static void jobBounds() {
    for (int no : outside(0, 0)) {
      due(20, "job " + no, BOUNDS, () -> onePlanned().vehicleOf(no));
      due(21, "job " + no, BOUNDS, () -> onePlanned().isSet(no));
    }
    for (int no : outside(0, 8)) {
      due(20, "job " + no + " of 9", BOUNDS, () -> fullHouse().vehicleOf(no));
      due(21, "job " + no + " of 9", BOUNDS, () -> fullHouse().isSet(no));
    }
    due(20, "no job that could be", BOUNDS, () -> onePlanned().vehicleOf(8));
    due(21, "no job that could be", BOUNDS, () -> onePlanned().isSet(8));
  }

  private static void jobValues() {
    DroverPlan p = fullHouse();
    for (int n = 0; n < 9; n++) {
      int job = n;
      due(20, "open", -1, () -> p.vehicleOf(job));
      due(21, "open", false, () -> p.isSet(job));
      p.insertAt(job, job % 3, 0, 1);
      due(20, "planned", job % 3, () -> p.vehicleOf(job));
      due(21, "planned", false, () -> p.isSet(job));
    }
    p.advance(1);
    for (int n = 0; n < 9; n++) {
      int job = n;
      due(20, "set", job % 3, () -> p.vehicleOf(job));
      due(21, "set", true, () -> p.isSet(job));
    }
    DroverPlan q = onePlanned();
    q.take(0);
    due(20, "taken out", -1, () -> q.vehicleOf(0));
  }

  // ---- 22 to 34: of a vehicle, of a stop

  private static void vehicleBounds() {
    Supplier<DroverPlan> one = Check::onePlanned;
    Supplier<DroverPlan> three = Check::fullHouse;
    for (int count = 1; count <= 3; count += 2) {
      Supplier<DroverPlan> made = count == 1 ? one : three;
      for (int no : outside(0, count - 1)) {
        String what = "vehicle " + no + " of " + count;
        due(22, what, BOUNDS, () -> made.get().stops(no));
        due(23, what, BOUNDS, () -> made.get().setStops(no));
        due(24, what, BOUNDS, () -> made.get().jobAt(no, 0));
        due(25, what, BOUNDS, () -> made.get().isFetched(no, 0));
        due(26, what, BOUNDS, () -> made.get().arrives(no, 0));
        due(27, what, BOUNDS, () -> made.get().begins(no, 0));
        due(28, what, BOUNDS, () -> made.get().loadBehind(no, 0));
        due(29, what, BOUNDS, () -> made.get().slack(no, 0));
        due(30, what, BOUNDS, () -> made.get().back(no));
        due(31, what, BOUNDS, () -> made.get().waits(no));
        due(32, what, BOUNDS, () -> made.get().isRight(no));
        due(33, what, BOUNDS, () -> made.get().length(no));
        due(34, what, BOUNDS, () -> made.get().costOf(no));
      }
    }
  }

  private static void stopBounds() {
    Supplier<DroverPlan> none = Check::oneOpen;
    Supplier<DroverPlan> two = Check::onePlanned;
    Supplier<DroverPlan> full = () -> {
      DroverPlan p = fullHouse();
      p.rebuild();
      return p;
    };
    int[] counts = {0, 2, 18};
    for (int count : counts) {
      Supplier<DroverPlan> made = count == 0 ? none : count == 2 ? two : full;
      due(22, "stops", count, () -> made.get().stops(0));
      for (int no : outside(0, count - 1)) {
        String what = "stop " + no + " of " + count;
        due(24, what, BOUNDS, () -> made.get().jobAt(0, no));
        due(25, what, BOUNDS, () -> made.get().isFetched(0, no));
        due(26, what, BOUNDS, () -> made.get().arrives(0, no));
        due(27, what, BOUNDS, () -> made.get().begins(0, no));
        due(28, what, BOUNDS, () -> made.get().loadBehind(0, no));
        due(29, what, BOUNDS, () -> made.get().slack(0, no));
      }
    }
    due(24, "the last one of 18", 0, () -> full.get().jobAt(0, 17));
    due(25, "the last one of 18", false, () -> full.get().isFetched(0, 17));
    due(26, "the last one of 18", 0, () -> full.get().arrives(0, 17));
    due(27, "the last one of 18", 0, () -> full.get().begins(0, 17));
    due(28, "the last one of 18", 0, () -> full.get().loadBehind(0, 17));
    due(29, "the last one of 18", 1440, () -> full.get().slack(0, 17));
    due(24, "a stop of another vehicle", BOUNDS, () -> full.get().jobAt(1, 0));
  }

  private static void stopsOfRoute() {
    DroverPlan p = fullHouse();
    String row = "+0+1-0+2-2-1+3-3+8-8";
    lay(p, 1, row);
    due(22, "stops", 10, () -> p.stops(1));
    for (int n = 0; n < 10; n++) {
      int s = n;
      due(24, "the job at " + s, row.charAt(2 * s + 1) - '0', () -> p.jobAt(1, s));
      due(25, "fetched at " + s, row.charAt(2 * s) == '+', () -> p.isFetched(1, s));
    }
    p.take(8);
    due(22, "two less", 8, () -> p.stops(1));
    due(24, "the last one is out", BOUNDS, () -> p.jobAt(1, 8));
  }

  // ---- 26 and 27: arrives, begins

  private static void times() {
    // It leaves at 5, and fetches at 15, or as the hours begin; it takes 5 minutes.
    int[] opens = {0, 14, 15, 16, 200};
    int[] begins = {15, 15, 15, 16, 200};
    for (int n = 0; n < opens.length; n++) {
      DroverPlan p = line();
      p.addVehicle(0, 10, 5, 1440, 1, 0);
      p.addJob(1, 2, 1, 5, 0);
      p.insert(0);
      p.setHours(0, true, opens[n], 1440);
      int begun = begins[n];
      due(26, "it arrives, whenever the hours begin", 15, () -> p.arrives(0, 0));
      due(27, "hours from " + opens[n], begun, () -> p.begins(0, 0));
      due(26, "at the next one", begun + 15, () -> p.arrives(0, 1));
      due(27, "at the next one", begun + 15, () -> p.begins(0, 1));
      due(30, "back", begun + 15 + 5 + 20, () -> p.back(0));
    }
    // Behind the hours, and behind the day: told as they are.
    DroverPlan late = onePlanned();
    late.setHours(0, true, 0, 0);
    due(27, "it begins late", 10, () -> late.begins(0, 0));
    late.setHours(0, true, 1440, 1440);
    due(26, "it arrives behind 1440", 1455, () -> late.arrives(0, 1));
    due(27, "it begins behind 1440", 1455, () -> late.begins(0, 1));
    due(30, "back behind 1440", 1480, () -> late.back(0));
    // No way at all, and no minutes.
    DroverPlan home = oneVehicle();
    home.addJob(0, 0, 1, 0, 0);
    home.insert(0);
    due(26, "it arrives as it leaves", 0, () -> home.arrives(0, 1));
    due(30, "back as it leaves", 0, () -> home.back(0));
  }

  // ---- 28: the load behind a stop

  private static void loads() {
    DroverPlan p = line();
    p.addVehicle(0, 50, 0, 1440, 1, 0);
    int[] loads = {20, 20, 10, 1, 7};
    for (int load : loads) {
      p.addJob(1, 1, load, 0, 0);
    }
    lay(p, 0, "+0+1+2-2-0-1+3+4-3-4");
    int[] behind = {20, 40, 50, 40, 20, 0, 1, 8, 7, 0};
    for (int n = 0; n < behind.length; n++) {
      int s = n;
      due(28, "behind stop " + s, behind[s], () -> p.loadBehind(0, s));
    }
  }

  // ---- 29: slack

  /** A vehicle that leaves at 0 and must be back by 100; from 1 to 2, 5 minutes each: back at 50. */
  private static DroverPlan dueAt(int due) {
    DroverPlan p = line();
    p.addVehicle(0, 10, 0, 100, 1, 0);
    p.addJob(1, 2, 4, 5, 100);
    p.insert(0);
    p.setHours(0, false, 0, due);
    return p;
  }

  private static void slackBounds() {
    due(29, "up to being back", 50, () -> dueAt(1440).slack(0, 0));
    due(29, "as late as that for being brought", 50, () -> dueAt(75).slack(0, 0));
    due(29, "a minute less for being brought", 49, () -> dueAt(74).slack(0, 0));
    due(29, "a minute for being brought", 1, () -> dueAt(26).slack(0, 1));
    due(29, "none at all", 0, () -> dueAt(25).slack(0, 1));
    due(29, "none at all for the one ahead", 0, () -> dueAt(25).slack(0, 0));
    due(29, "a minute late", -1, () -> dueAt(24).slack(0, 1));
    due(29, "ten minutes late are -1 too", -1, () -> dueAt(15).slack(0, 1));
    due(29, "the one ahead is in time itself", -1, () -> dueAt(24).slack(0, 0));
    DroverPlan home = oneVehicle();
    home.addJob(0, 0, 1, 0, 0);
    home.insert(0);
    due(29, "the whole day", 1440, () -> home.slack(0, 0));
  }

  private static void slackAndHoursThatBegin() {
    // It arrives at 25 and waits up to 40; it could arrive at 60.
    DroverPlan p = dueAt(1440);
    p.setHours(0, false, 40, 60);
    due(29, "waiting is slack too", 35, () -> p.slack(0, 1));
    due(29, "also for the one ahead", 35, () -> p.slack(0, 0));
    p.setHours(0, false, 75, 75);
    due(29, "back at the last minute if it arrives ahead of the hours", 50, () -> p.slack(0, 1));
    p.setHours(0, false, 76, 100);
    due(29, "back a minute late, however early it arrives", -1, () -> p.slack(0, 1));
    due(29, "also at the one ahead", -1, () -> p.slack(0, 0));
    p.setHours(0, false, 0, 1440);
    p.setHours(0, true, 60, 60);
    due(29, "back at the last minute by the hours of the one ahead", 50, () -> p.slack(0, 0));
    due(29, "behind that there is none", 0, () -> p.slack(0, 1));
    p.setHours(0, true, 61, 61);
    due(29, "back a minute late by them", -1, () -> p.slack(0, 0));
    due(29, "and behind", -1, () -> p.slack(0, 1));
  }

  /** Only the stop itself and those behind it count, and being back. */
  private static void slackLate() {
    DroverPlan p = oneVehicle();
    for (int n = 1; n <= 3; n++) {
      p.addJob(n, n, 1, 0, 0);
    }
    lay(p, 0, "+0-0+1-1+2-2");
    p.setHours(1, true, 0, 19);
    int[] slacks = {-1, -1, -1, 1380, 1380, 1380};
    for (int n = 0; n < 6; n++) {
      int s = n;
      due(29, "stop " + s + ", the third one is late", slacks[s], () -> p.slack(0, s));
    }
    p.setHours(1, true, 0, 20);
    due(29, "just in time", 0, () -> p.slack(0, 0));
    due(29, "behind it", 1380, () -> p.slack(0, 3));
  }

  /** The load is not looked at; the end of the day is. */
  private static void slackWithoutLoad() {
    DroverPlan p = line();
    p.addVehicle(0, 4, 0, 50, 1, 0);
    p.addJob(1, 2, 4, 5, 100);
    p.insert(0);
    due(29, "full, and back at the last minute", 0, () -> p.slack(0, 0));
    p.setHours(0, true, 11, 20);
    due(29, "back a minute late", -1, () -> p.slack(0, 0));
    due(29, "back a minute late, behind", -1, () -> p.slack(0, 1));
  }

  // ---- 30 to 34: back, waits, isRight, length, costOf

  private static void emptyRoute() {
    for (int from : new int[] {0, 700, 1440}) {
      DroverPlan p = line();
      p.addVehicle(3, 10, from, 1440, 9, 200);
      due(22, "without stops", 0, () -> p.stops(0));
      due(23, "none is set", 0, () -> p.setStops(0));
      due(30, "the minute at which it leaves", from, () -> p.back(0));
      due(31, "it waits for nothing", 0, () -> p.waits(0));
      due(32, "one without stops is right", true, () -> p.isRight(0));
      due(33, "no length", 0, () -> p.length(0));
      due(34, "no cost, not even for being used", 0, () -> p.costOf(0));
      due(35, "no cost of all", 0, () -> p.cost());
      due(36, "no fullness", 0.0, () -> p.fullness());
      p.advance(1440);
      due(30, "at the end of the day too", from, () -> p.back(0));
      due(32, "right at the end of the day too", true, () -> p.isRight(0));
    }
  }

  private static void waits() {
    DroverPlan p = onePlanned();
    due(31, "none", 0, () -> p.waits(0));
    p.setHours(0, true, 10, 1440);
    due(31, "as it arrives", 0, () -> p.waits(0));
    p.setHours(0, true, 11, 1440);
    due(31, "one minute", 1, () -> p.waits(0));
    p.setHours(0, false, 27, 1440);
    due(31, "one more at the last stop", 2, () -> p.waits(0));
    p.setHours(0, true, 0, 5);
    due(31, "late is no waiting", 2, () -> p.waits(0));
    p.setHours(0, true, 1440, 1440);
    due(31, "up to the end of the day", 1430, () -> p.waits(0));
  }

  private static void rightAtTheLimits() {
    for (int late = -1; late <= 1; late++) {
      int minutes = late;
      DroverPlan fetch = onePlanned();
      fetch.setHours(0, true, 0, 10 - minutes);
      due(32, "fetched " + minutes + " late", minutes <= 0, () -> fetch.isRight(0));
      DroverPlan bring = onePlanned();
      bring.setHours(0, false, 0, 25 - minutes);
      due(32, "brought " + minutes + " late", minutes <= 0, () -> bring.isRight(0));
      DroverPlan back = onePlanned();
      back.setHours(0, false, 1415 + minutes, 1440);
      due(30, "back at 1440 and " + minutes, 1440 + minutes, () -> back.back(0));
      due(32, "back " + minutes + " late", minutes <= 0, () -> back.isRight(0));
    }
    // The load as the capacity is right; above it nothing is let in.
    DroverPlan p = line();
    p.addVehicle(0, 4, 0, 1440, 1, 0);
    p.addJob(1, 2, 4, 0, 0);
    p.insert(0);
    due(32, "full", true, () -> p.isRight(0));
  }

  private static void lengthAndCost() {
    DroverPlan p = new DroverPlan();
    p.addPlace(0, 0);
    p.addPlace(60, 60);
    p.addVehicle(0, 1, 0, 1440, 9, 200);
    p.addVehicle(0, 1, 0, 1440, 9, 200);
    for (int n = 0; n < 9; n++) {
      p.addJob(0, 1, 1, 0, 999);
    }
    due(35, "nine fines", 8991, () -> p.cost());
    lay(p, 0, "+0-0");
    due(33, "out and back", 240, () -> p.length(0));
    due(34, "its price", 2360, () -> p.costOf(0));
    due(35, "and eight fines", 2360 + 8 * 999, () -> p.cost());
    p.take(0);
    lay(p, 1, "+0-0+1-1+2-2+3-3+4-4+5-5");
    due(33, "the longest way six times", 1440, () -> p.length(1));
    due(34, "its price", 13160, () -> p.costOf(1));
    due(30, "back at the last minute", 1440, () -> p.back(1));
    due(29, "no slack at all", 0, () -> p.slack(1, 0));
    due(35, "and three fines", 13160 + 3 * 999, () -> p.cost());
    due(37, "not a seventh time", -1, () -> p.wouldAdd(6, 1));

    DroverPlan q = oneVehicle();
    q.addVehicle(0, 10, 0, 1440, 5, 17);
    q.addJob(0, 0, 1, 0, 0);
    q.insertAt(0, 1, 0, 1);
    due(33, "stops at home only", 0, () -> q.length(1));
    due(34, "the price for being used", 17, () -> q.costOf(1));
    due(34, "not that of the other one", 0, () -> q.costOf(0));
  }

  // ---- 35 and 36: cost, fullness

  private static void costOfAll() {
    due(35, "without anything", 0, () -> new DroverPlan().cost());
    due(35, "fines without vehicles", 100, () -> {
      DroverPlan p = line();
      p.addJob(0, 0, 1, 0, 100);
      p.addJob(0, 0, 1, 0, 0);
      return p.cost();
    });
    due(35, "open", 100, () -> oneOpen().cost());
    due(35, "planned", 40, () -> onePlanned().cost());
    due(35, "set", 40, () -> oneSet().cost());
    due(35, "a route that is not right costs as much", 40, () -> {
      DroverPlan p = onePlanned();
      p.setHours(0, true, 0, 0);
      return p.cost();
    });
    DroverPlan three = line();
    for (int n = 0; n < 3; n++) {
      three.addVehicle(0, 10, 0, 1440, n + 1, 100 * n);
      three.addJob(1, 1, 1, 0, 0);
      three.insertAt(n, n, 0, 1);
    }
    due(35, "all three routes", 20 + 140 + 260, () -> three.cost());
  }

  private static void fullness() {
    due(36, "without vehicles", 0.0, () -> line().fullness());
    due(36, "without stops", 0.0, () -> fullHouse().fullness());
    due(36, "stops, but no length", 0.0, () -> {
      DroverPlan p = fullHouse();
      p.rebuild();
      return p.fullness();
    });
    // Load 3 for 10 of 40, capacity 10.
    due(36, "one job", 30.0 / 400.0, () -> onePlanned().fullness());
    due(36, "not cut", 1.0 / 3.0, () -> {
      DroverPlan p = line();
      p.addVehicle(1, 3, 0, 1440, 1, 0);
      p.addJob(1, 2, 2, 0, 0);
      p.insert(0);
      return p.fullness();
    });
    // The load is the capacity all the way out, and all the way back.
    due(36, "as full as can be", 1.0, () -> {
      DroverPlan p = line();
      p.addVehicle(0, 5, 0, 1440, 1, 0);
      p.addJob(0, 6, 5, 0, 0);
      p.addJob(6, 0, 5, 0, 0);
      lay(p, 0, "+0-0+1-1");
      return p.fullness();
    });
    // Two vehicles of other capacities: one sum divided by the other, not the mean of both.
    DroverPlan q = line();
    q.addVehicle(0, 4, 0, 1440, 1, 0);
    q.addVehicle(0, 50, 0, 1440, 1, 0);
    q.addVehicle(0, 7, 0, 1440, 1, 0);
    q.addJob(0, 2, 3, 0, 0);
    q.addJob(1, 0, 1, 0, 0);
    lay(q, 0, "+0-0");
    lay(q, 1, "+1-1");
    due(36, "divided once", (20.0 * 3 + 10) / (40 * 4 + 20 * 50), () -> q.fullness());
    q.setHours(0, true, 1, 1);
    q.setHours(0, false, 0, 0);
    due(36, "right or not", (20.0 * 3 + 10) / (40 * 4 + 20 * 50), () -> q.fullness());
  }

  /** Each answer is that of the vehicle asked for, whatever was asked ahead of it. */
  private static void inTurn() {
    DroverPlan p = line();
    p.addVehicle(0, 10, 0, 1440, 1, 0);
    p.addVehicle(2, 10, 7, 60, 3, 11);
    p.addJob(1, 2, 3, 5, 100);
    p.addJob(1, 3, 4, 2, 100);
    lay(p, 0, "+0-0");
    lay(p, 1, "+1-1");
    p.setHours(1, true, 20, 30);
    p.setHours(1, false, 0, 41);
    for (int round = 0; round < 2; round++) {
      due(24, "first", 0, () -> p.jobAt(0, 0));
      due(24, "second", 1, () -> p.jobAt(1, 0));
      due(26, "first", 25, () -> p.arrives(0, 1));
      due(26, "second", 42, () -> p.arrives(1, 1));
      due(27, "first", 10, () -> p.begins(0, 0));
      due(27, "second", 20, () -> p.begins(1, 0));
      due(28, "first", 3, () -> p.loadBehind(0, 0));
      due(28, "second", 4, () -> p.loadBehind(1, 0));
      due(29, "first", 1390, () -> p.slack(0, 1));
      due(29, "second", -1, () -> p.slack(1, 1));
      due(30, "first", 50, () -> p.back(0));
      due(30, "second", 54, () -> p.back(1));
      due(31, "first", 0, () -> p.waits(0));
      due(31, "second", 3, () -> p.waits(1));
      due(32, "first", true, () -> p.isRight(0));
      due(32, "second", false, () -> p.isRight(1));
      due(33, "first", 40, () -> p.length(0));
      due(33, "second", 40, () -> p.length(1));
      due(34, "first", 40, () -> p.costOf(0));
      due(34, "second", 131, () -> p.costOf(1));
    }
    p.take(1);
    due(31, "it waits for nothing", 0, () -> p.waits(1));
    due(33, "no length behind one with a length", 0, () -> {
      p.length(0);
      return p.length(1);
    });
    due(33, "the length behind one without", 40, () -> {
      p.costOf(1);
      return p.length(0);
    });
    due(30, "the minute at which it leaves", 7, () -> p.back(1));
  }

  // ---- asking changes nothing

  private static void askingChangesNothing() {
    Supplier<DroverPlan> made = () -> {
      DroverPlan p = oneSet();
      p.addVehicle(1, 9, 0, 900, 2, 5);
      p.addJob(3, 1, 2, 1, 200);
      p.insertAt(1, 0, 1, 3);
      p.addJob(5, 1, 2, 1, 200);
      return p;
    };
    idle(19, "way", 10, made, p -> p.way(0, 1));
    idle(20, "vehicleOf", 0, made, p -> p.vehicleOf(1));
    idle(21, "isSet", true, made, p -> p.isSet(0));
    idle(22, "stops", 4, made, p -> p.stops(0));
    idle(23, "setStops", 1, made, p -> p.setStops(0));
    idle(24, "jobAt", 1, made, p -> p.jobAt(0, 1));
    idle(25, "isFetched", true, made, p -> p.isFetched(0, 1));
    idle(26, "arrives", 35, made, p -> p.arrives(0, 1));
    idle(27, "begins", 35, made, p -> p.begins(0, 1));
    idle(28, "loadBehind", 5, made, p -> p.loadBehind(0, 1));
    idle(29, "slack", 1440 - 72, made, p -> p.slack(0, 1));
    idle(30, "back", 72, made, p -> p.back(0));
    idle(31, "waits", 0, made, p -> p.waits(0));
    idle(32, "isRight", true, made, p -> p.isRight(0));
    idle(33, "length", 60, made, p -> p.length(0));
    idle(34, "costOf", 60, made, p -> p.costOf(0));
    idle(35, "cost", 260, made, p -> p.cost());
    idle(36, "fullness", (20 * 3 + 10 * 5 + 10 * 2) / 600.0, made, p -> p.fullness());
    for (int no = -1; no < 3; no += 3) {
      int v = no;
      idle(22, "no vehicle", BOUNDS, made, p -> p.stops(v));
      idle(24, "no vehicle", BOUNDS, made, p -> p.jobAt(v, 0));
      idle(29, "no stop", BOUNDS, made, p -> p.slack(1, 0));
      idle(30, "no vehicle", BOUNDS, made, p -> p.back(v));
    }
  }
}

import java.util.function.Supplier;

/** The boundary cases of promises 13 and 14, and of what is SET: 21 and 23. */
public final class EdgesRepairAndClock extends Check {
  public static void main(String[] args) {
    repairRefused();
    repairFindsNothing();
    repairOneOfSeveral();
    repairByCost();
    repairTheGreatestNumber();
    repairUntilEmpty();
    repairSetStops();
    repairOneRoute();
    advanceRefused();
    advanceToTheEnd();
    advanceNotRight();
    advanceCounts();
    setAtTheClock();
    setBehindWaiting();
    setByTheClockAlone();
    setStopsStay();
    end();
  }

  /** Vehicle 0 at home, and a job of load 1 and fine 0 at each place that is told, laid as told. */
  private static DroverPlan laid(String row, int... places) {
    DroverPlan p = oneVehicle();
    for (int place : places) {
      p.addJob(place, place, 1, 0, 0);
    }
    lay(p, 0, row);
    return p;
  }

  // ---- 13: repair

  private static void repairRefused() {
    for (int no : outside(0, 0)) {
      idle(13, "vehicle " + no, BOUNDS, Check::onePlanned, p -> p.repair(no));
    }
    for (int no : outside(0, 2)) {
      idle(13, "vehicle " + no + " of 3", BOUNDS, Check::fullHouse, p -> p.repair(no));
    }
  }

  private static void repairFindsNothing() {
    idle(13, "a route without stops", 0, Check::oneOpen, p -> p.repair(0));
    idle(13, "a route that is right", 0, Check::onePlanned, p -> p.repair(0));
    idle(13, "all that are left are set", 0, Check::oneSet, p -> p.repair(0));
    idle(13, "right at the last minutes", 0, () -> {
      DroverPlan p = onePlanned();
      p.setHours(0, true, 0, 10);
      p.setHours(0, false, 0, 25);
      return p;
    }, p -> p.repair(0));
    idle(13, "back at the last minute", 0, () -> {
      DroverPlan p = onePlanned();
      p.setHours(0, false, 1415, 1440);
      return p;
    }, p -> p.repair(0));
    DroverPlan late = onePlanned();
    late.setHours(0, false, 1416, 1440);
    due(13, "back a minute late", 1, () -> late.repair(0));
    due(13, "it is out", 0, () -> late.stops(0));
    DroverPlan begun = onePlanned();
    begun.setHours(0, false, 0, 24);
    due(13, "brought a minute late", 1, () -> begun.repair(0));
    due(13, "it is open", -1, () -> begun.vehicleOf(0));
  }

  /** The one without which it is right. */
  private static void repairOneOfSeveral() {
    for (int late = 0; late < 3; late++) {
      int job = late;
      DroverPlan p = laid("+0-0+1-1+2-2", 1, 2, 3);
      p.setHours(job, true, 0, 9);
      due(13, "job " + job + " is too far", 1, () -> p.repair(0));
      due(13, "job " + job + " is out", -1, () -> p.vehicleOf(job));
      due(13, "the others stay", 4, () -> p.stops(0));
      due(13, "right", true, () -> p.isRight(0));
    }
  }

  /** Of those the one without which it costs least, then the smallest number. */
  private static void repairByCost() {
    // At 7, 4 and 1: the last one is in time without any of the three; 80, 40 or 100 are left.
    DroverPlan p = laid("+0-0+1-1+2-2", 7, 4, 1);
    p.setHours(2, true, 0, 90);
    due(32, "at 1 at 90, right", true, () -> p.isRight(0));
    p.setHours(2, true, 0, 89);
    due(32, "a minute late", false, () -> p.isRight(0));
    due(13, "one", 1, () -> p.repair(0));
    due(13, "the one that makes it cost least", "+0-0+2-2", () -> row(p, 0));

    // At 4 and 1: 80 or 20 are left.
    DroverPlan q = laid("+1-1+0-0", 1, 4);
    q.setHours(0, true, 0, 69);
    due(13, "one of both", 1, () -> q.repair(0));
    due(13, "the greater number, as less is left", "+0-0", () -> row(q, 0));

    // 40 are left without either one: the smallest number, though it comes last in the route.
    DroverPlan r = laid("+1-1+0-0", 2, 2);
    r.setHours(1, false, 21, 1440);
    r.setHours(0, true, 0, 20);
    due(32, "the second one waits for the first", false, () -> r.isRight(0));
    due(13, "either one", 1, () -> r.repair(0));
    due(13, "the smallest number", "+1-1", () -> row(r, 0));

    // The least cost is that of job 1's route, 0: the first one is at home.
    DroverPlan s = laid("+0-0+1-1", 2, 0);
    s.setHours(1, true, 0, 39);
    due(13, "either one, and one is at home", 1, () -> s.repair(0));
    due(13, "no way at all is left", "+1-1", () -> row(s, 0));
  }

  /** If it is not right without any single one, the one with the greatest number. */
  private static void repairTheGreatestNumber() {
    DroverPlan p = laid("+2-2+1-1+0-0", 1, 1, 1);
    p.setHours(1, true, 0, 9);
    p.setHours(0, true, 0, 9);
    due(13, "first the greatest number, though it is in time, then 1 and 0", 3, () -> p.repair(0));
    due(13, "none is left", "", () -> row(p, 0));

    DroverPlan q = laid("+0-0+1-1+2-2", 1, 1, 1);
    q.setHours(2, true, 0, 9);
    q.setHours(1, true, 0, 9);
    due(13, "the greatest number, then the only one left that is late", 2, () -> q.repair(0));
    due(13, "the first one is left", "+0-0", () -> row(q, 0));

    // Job 3 is open, job 4 in another route: they do not count.
    DroverPlan r = laid("+0-0+1-1+2-2", 1, 1, 1);
    r.addVehicle(0, 10, 0, 1440, 1, 0);
    r.addJob(1, 1, 1, 0, 0);
    r.addJob(1, 1, 1, 0, 0);
    lay(r, 1, "+4-4");
    r.setHours(2, true, 0, 9);
    r.setHours(1, true, 0, 9);
    due(13, "only those of its route", 2, () -> r.repair(0));
    due(13, "the open one is open", -1, () -> r.vehicleOf(3));
    due(13, "the other route stays", "+4-4", () -> row(r, 1));
  }

  private static void repairUntilEmpty() {
    DroverPlan p = oneVehicle();
    for (int n = 0; n < 9; n++) {
      p.addJob(1, 1, 1, 0, 0);
      p.insert(n);
    }
    due(13, "full", 18, () -> p.stops(0));
    for (int n = 0; n < 9; n++) {
      p.setHours(n, true, 0, 9);
    }
    due(13, "all nine are late", 9, () -> p.repair(0));
    due(13, "none is left", 0, () -> p.stops(0));
    due(13, "right without stops", true, () -> p.isRight(0));
    due(13, "nothing more to do", 0, () -> p.repair(0));
  }

  private static void repairSetStops() {
    // Job 0 is set; without any single one of the others it is not right.
    DroverPlan p = laid("+0-0+1-1+2-2", 1, 2, 3);
    p.advance(1);
    p.setHours(1, true, 0, 5);
    p.setHours(2, true, 0, 5);
    due(13, "the two that are not set", 2, () -> p.repair(0));
    due(13, "the set one is left", "+0-0", () -> row(p, 0));
    due(13, "it is right then", true, () -> p.isRight(0));
    due(13, "its stop is set", 1, () -> p.setStops(0));

    // Without the set job the route would be right, and cost 20; without the other one 40.
    DroverPlan q = laid("+1-1+0-0", 1, 2);
    q.advance(1);
    q.setHours(0, true, 0, 29);
    due(13, "not the set one, though less would be left", 1, () -> q.repair(0));
    due(13, "that one stays", "+1-1", () -> row(q, 0));

    // Job 0 is set, and is still to be brought; another one comes in ahead of that, and goes.
    DroverPlan r = oneVehicle();
    r.addJob(1, 3, 1, 0, 0);
    r.addJob(2, 2, 1, 0, 0);
    lay(r, 0, "+0+1-1-0");
    r.advance(1);
    r.setHours(1, false, 31, 60);
    due(13, "right", 0, () -> r.repair(0));
    r.setHours(1, true, 0, 19);
    due(13, "from between the stops of a set job", 1, () -> r.repair(0));
    due(13, "that is to be brought still", "+0-0", () -> row(r, 0));
  }

  private static void repairOneRoute() {
    DroverPlan p = oneVehicle();
    p.addVehicle(0, 10, 0, 1440, 1, 0);
    p.addVehicle(0, 10, 0, 1440, 1, 0);
    for (int n = 0; n < 3; n++) {
      p.addJob(1, 1, 1, 0, 0);
      p.insertAt(n, n, 0, 1);
      p.setHours(n, true, 0, 9);
    }
    due(13, "the last route", 1, () -> p.repair(2));
    due(13, "the first one is as it was", "+0-0", () -> row(p, 0));
    due(13, "the first one is not right", false, () -> p.isRight(0));
    due(13, "the first route", 1, () -> p.repair(0));
    due(13, "the second one is as it was", "+1-1", () -> row(p, 1));
  }

  // ---- 14: advance

  private static void advanceRefused() {
    for (int no : outside(1, 1440)) {
      idle(14, "minutes " + no, ARGUMENT, Check::onePlanned, p -> p.advance(no));
      idle(14, "minutes " + no + " of nothing", ARGUMENT, DroverPlan::new, p -> p.advance(no));
      idle(14, "minutes " + no + ", not right", ARGUMENT, EdgesRepairAndClock::wrong,
          p -> p.advance(no));
      idle(14, "minutes " + no + " at 1440", ARGUMENT, () -> {
        DroverPlan p = onePlanned();
        p.advance(1440);
        return p;
      }, p -> p.advance(no));
    }
  }

  private static DroverPlan wrong() {
    DroverPlan p = onePlanned();
    p.setHours(0, true, 0, 9);
    return p;
  }

  private static void advanceToTheEnd() {
    DroverPlan p = onePlanned();
    due(14, "all minutes of the day", 2, () -> p.advance(1440));
    due(15, "the clock", 1440, () -> p.clock());
    idle(14, "one above 1440", STATE, () -> {
      DroverPlan q = onePlanned();
      q.advance(1440);
      return q;
    }, q -> q.advance(1));
    for (int minutes : new int[] {1, 2, 1440}) {
      idle(14, "above 1440 by " + minutes, STATE, () -> {
        DroverPlan q = new DroverPlan();
        q.advance(1439);
        q.advance(1);
        return q;
      }, q -> q.advance(minutes));
    }
    DroverPlan r = new DroverPlan();
    due(14, "the least", 0, () -> r.advance(1));
    due(14, "1441 in all", STATE, () -> r.advance(1440));
    due(15, "the clock stays", 1, () -> r.clock());
    due(14, "1440 in all", 0, () -> r.advance(1439));
    due(15, "the clock at its end", 1440, () -> r.clock());
  }

  private static void advanceNotRight() {
    idle(14, "a route is not right", STATE, EdgesRepairAndClock::wrong, p -> p.advance(1));
    for (int vehicle = 0; vehicle < 3; vehicle++) {
      int v = vehicle;
      idle(14, "the route of vehicle " + v + " of 3", STATE, () -> {
        DroverPlan p = oneVehicle();
        p.addVehicle(0, 10, 0, 1440, 1, 0);
        p.addVehicle(0, 10, 0, 1440, 1, 0);
        for (int n = 0; n < 3; n++) {
          p.addJob(1, 1, 1, 0, 0);
          p.insertAt(n, n, 0, 1);
        }
        p.setHours(v, true, 0, 9);
        return p;
      }, p -> p.advance(1440));
    }
    idle(14, "above 1440, and a route is not right", STATE, () -> {
      DroverPlan p = oneOpen();
      p.addVehicle(0, 10, 1000, 1440, 1, 0);
      p.insertAt(0, 1, 0, 1);
      p.advance(900);
      p.setHours(0, true, 0, 900);
      return p;
    }, p -> p.advance(541));
    DroverPlan p = wrong();
    p.setHours(0, true, 0, 10);
    due(14, "right again, at the last minute", 1, () -> p.advance(1));
  }

  private static void advanceCounts() {
    DroverPlan p = line();
    for (int from = 0; from <= 20; from += 10) {
      p.addVehicle(0, 10, from, 1440, 1, 0);
    }
    for (int n = 0; n < 3; n++) {
      p.addJob(1, 2, 1, 5, 0);
      p.insertAt(n, n, 0, 1);
    }
    due(14, "one of the first route", 1, () -> p.advance(1));
    due(14, "no more up to 10", 0, () -> p.advance(9));
    due(14, "one of the second route", 1, () -> p.advance(1));
    due(14, "the second of the first route", 1, () -> p.advance(5));
    due(14, "one each of the second and the third", 2, () -> p.advance(10));
    due(23, "both of the second", 2, () -> p.setStops(1));
    due(14, "the last one", 1, () -> p.advance(1440 - 26));
    due(23, "two of each", 6, () -> p.setStops(0) + p.setStops(1) + p.setStops(2));

    DroverPlan full = fullHouse();
    full.rebuild();
    due(14, "18 at once, at home", 18, () -> full.advance(1));
    due(21, "all are set", true, () -> full.isSet(0) && full.isSet(8));
    due(14, "no vehicle without stops", 0, () -> {
      DroverPlan q = oneOpen();
      return q.advance(1440);
    });
  }

  // ---- 3 THE CLOCK: a stop is set if the vehicle leaves the one ahead below the clock

  private static void setAtTheClock() {
    // It leaves its home at 5, and the first stop at 20, when it has been fetched.
    int[] clocks = {4, 5, 6, 19, 20, 21, 1440};
    int[] set = {0, 0, 1, 1, 1, 2, 2};
    for (int n = 0; n < clocks.length; n++) {
      DroverPlan p = line();
      p.addVehicle(0, 10, 5, 1440, 1, 0);
      p.addJob(1, 2, 1, 5, 0);
      p.insert(0);
      int clock = clocks[n];
      int want = set[n];
      due(14, "became set at " + clock, want, () -> p.advance(clock));
      due(23, "set at " + clock, want, () -> p.setStops(0));
      due(21, "the job at " + clock, want > 0, () -> p.isSet(0));
    }
    DroverPlan p = line();
    p.addVehicle(0, 10, 0, 1440, 1, 0);
    due(23, "without stops", 0, () -> {
      p.advance(1440);
      return p.setStops(0);
    });
  }

  /** While it waits for hours to begin it has not left. */
  private static void setBehindWaiting() {
    DroverPlan p = onePlanned();
    p.setHours(0, true, 100, 200);
    due(14, "on its way", 1, () -> p.advance(10));
    due(14, "it waits, and fetches up to 105", 0, () -> p.advance(95));
    due(15, "the clock is 105", 105, () -> p.clock());
    due(14, "it has left", 1, () -> p.advance(1));
  }

  /** Which stops are set changes by the clock alone. */
  private static void setByTheClockAlone() {
    DroverPlan p = oneVehicle();
    p.addJob(1, 4, 1, 5, 50);
    p.addJob(2, 2, 1, 5, 50);
    p.addJob(3, 3, 1, 5, 50);
    lay(p, 0, "+0+1-1-0");
    p.advance(15);
    due(23, "it leaves the first stop at 15", 1, () -> p.setStops(0));
    p.setHours(1, true, 0, 30);
    due(23, "behind hours set", 1, () -> p.setStops(0));
    p.take(1);
    due(23, "behind one taken out", 1, () -> p.setStops(0));
    p.insertAt(1, 0, 1, 2);
    due(23, "behind one put in", 1, () -> p.setStops(0));
    p.rebuild();
    p.improve(10);
    p.ruin(9);
    p.repair(0);
    p.addVehicle(0, 10, 0, 1440, 1, 0);
    due(23, "behind all other calls", 1, () -> p.setStops(0));
    due(23, "of one that is told behind its time", 0, () -> p.setStops(1));
    due(24, "the set stop is the first one", 0, () -> p.jobAt(0, 0));
    due(21, "its job is set", true, () -> p.isSet(0));
    due(21, "no other one is", false, () -> p.isSet(1) || p.isSet(2));
  }

  /** A job that is set stays where it is, whatever is called. */
  private static void setStopsStay() {
    Supplier<DroverPlan> made = () -> {
      DroverPlan p = line();
      p.addVehicle(0, 10, 0, 1440, 1, 0);
      p.addVehicle(5, 10, 0, 1440, 1, 0);
      p.addJob(5, 5, 1, 5, 0);
      lay(p, 0, "+0-0");
      p.advance(1);
      return p;
    };
    idle(8, "it is not taken", STATE, made, p -> p.take(0));
    idle(10, "it is not ruined", 0, made, p -> p.ruin(9));
    idle(11, "it is not moved", 0, made, p -> p.change(0));
    idle(11, "its end is not changed", 0, made, p -> p.change(3));
    idle(12, "it is not improved", 0, made, p -> p.improve(10));
    idle(13, "it is not repaired", 0, made, p -> p.repair(0));
    idle(5, "its hours stay", STATE, made, p -> p.setHours(0, false, 0, 1440));
    idle(6, "it is not put", STATE, made, p -> p.insert(0));
  }
}

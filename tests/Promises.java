/** Each promise of the document by its number, with answers worked out by hand. */
public final class Promises extends Check {
  public static void main(String[] args) {
    newObject();
    addPlace();
    addVehicle();
    addJob();
    setHours();
    insert();
    insertAt();
    insertAtWithClock();
    take();
    rebuild();
    rebuildTies();
    rebuildAndFines();
    ruin();
    change();
    changeTies();
    changesNotAllowed();
    improve();
    repair();
    repairWithSetStops();
    advance();
    setStops();
    counts();
    way();
    vehicleOfAndIsSet();
    stopsOfRoute();
    timesOfRoute();
    slack();
    backAndWaits();
    isRight();
    costs();
    fullness();
    wouldAdd();
    gain();
    laterBack();
    costWithout();
    digest();
    end();
  }

  // ---- what there is

  private static void newObject() {
    DroverPlan p = new DroverPlan();
    due(1, "clock", 0, () -> p.clock());
    due(1, "places", 0, () -> p.places());
    due(1, "vehicles", 0, () -> p.vehicles());
    due(1, "jobs", 0, () -> p.jobs());
    due(1, "cost", 0, () -> p.cost());
    due(1, "way", BOUNDS, () -> p.way(0, 0));
    due(1, "stops", BOUNDS, () -> p.stops(0));
    due(1, "vehicleOf", BOUNDS, () -> p.vehicleOf(0));
    DroverPlan other = new DroverPlan();
    other.addPlace(1, 1);
    due(1, "places of another object", 0, () -> p.places());
  }

  private static void addPlace() {
    DroverPlan p = new DroverPlan();
    due(2, "x below", ARGUMENT, () -> p.addPlace(-1, 0));
    due(2, "x above", ARGUMENT, () -> p.addPlace(61, 0));
    due(2, "y below", ARGUMENT, () -> p.addPlace(0, -1));
    due(2, "y above", ARGUMENT, () -> p.addPlace(0, 61));
    due(2, "least of all", ARGUMENT, () -> p.addPlace(Integer.MIN_VALUE, 0));
    due(2, "most of all", ARGUMENT, () -> p.addPlace(0, Integer.MAX_VALUE));
    due(2, "nothing is added", 0, () -> p.places());
    due(2, "first", 0, () -> p.addPlace(0, 60));
    due(2, "second", 1, () -> p.addPlace(60, 0));
    for (int n = 2; n < 12; n++) {
      int number = n;
      due(2, "next", number, () -> p.addPlace(number, 5));
    }
    due(2, "x above, 12 there", ARGUMENT, () -> p.addPlace(61, 0));
    due(2, "12 there", STATE, () -> p.addPlace(1, 1));
    due(2, "12 still", 12, () -> p.places());
    due(2, "ways of the first", 120, () -> p.way(0, 1));
    due(2, "ways of the last", 11 + 55, () -> p.way(0, 11));
  }

  private static void addVehicle() {
    DroverPlan p = new DroverPlan();
    due(3, "no place", BOUNDS, () -> p.addVehicle(0, 0, 0, 1440, 1, 0));
    p.addPlace(0, 0);
    due(3, "home below", BOUNDS, () -> p.addVehicle(-1, 1, 0, 1440, 1, 0));
    due(3, "home above", BOUNDS, () -> p.addVehicle(1, 51, 0, 1440, 1, 0));
    due(3, "capacity below", ARGUMENT, () -> p.addVehicle(0, 0, 0, 1440, 1, 0));
    due(3, "capacity above", ARGUMENT, () -> p.addVehicle(0, 51, 0, 1440, 1, 0));
    due(3, "from below", ARGUMENT, () -> p.addVehicle(0, 1, -1, 1440, 1, 0));
    due(3, "from above", ARGUMENT, () -> p.addVehicle(0, 1, 1441, 1441, 1, 0));
    due(3, "to ahead of from", ARGUMENT, () -> p.addVehicle(0, 1, 9, 8, 1, 0));
    due(3, "to above", ARGUMENT, () -> p.addVehicle(0, 1, 0, 1441, 1, 0));
    due(3, "price below", ARGUMENT, () -> p.addVehicle(0, 1, 0, 1440, 0, 0));
    due(3, "price above", ARGUMENT, () -> p.addVehicle(0, 1, 0, 1440, 10, 0));
    due(3, "fixed below", ARGUMENT, () -> p.addVehicle(0, 1, 0, 1440, 1, -1));
    due(3, "fixed above", ARGUMENT, () -> p.addVehicle(0, 1, 0, 1440, 1, 201));
    due(3, "nothing is added", 0, () -> p.vehicles());
    due(3, "least", 0, () -> p.addVehicle(0, 1, 0, 0, 1, 0));
    due(3, "most", 1, () -> p.addVehicle(0, 50, 1440, 1440, 9, 200));
    due(3, "third", 2, () -> p.addVehicle(0, 5, 7, 9, 2, 3));
    due(3, "home above, 3 there", BOUNDS, () -> p.addVehicle(1, 5, 0, 9, 2, 3));
    due(3, "price above, 3 there", ARGUMENT, () -> p.addVehicle(0, 5, 0, 9, 10, 3));
    due(3, "3 there", STATE, () -> p.addVehicle(0, 5, 0, 9, 2, 3));
    due(3, "3 still", 3, () -> p.vehicles());
    due(3, "without stops", 0, () -> p.stops(2));
    due(3, "back as it leaves", 7, () -> p.back(2));
  }

  private static void addJob() {
    DroverPlan p = new DroverPlan();
    due(4, "no place", BOUNDS, () -> p.addJob(0, 0, 0, 0, 0));
    p.addPlace(0, 0);
    p.addVehicle(0, 20, 1440, 1440, 1, 0);
    due(4, "from below", BOUNDS, () -> p.addJob(-1, 0, 1, 0, 0));
    due(4, "from above", BOUNDS, () -> p.addJob(1, 0, 1, 0, 0));
    due(4, "to below", BOUNDS, () -> p.addJob(0, -1, 1, 0, 0));
    due(4, "to above", BOUNDS, () -> p.addJob(0, 1, 21, 0, 0));
    due(4, "load below", ARGUMENT, () -> p.addJob(0, 0, 0, 0, 0));
    due(4, "load above", ARGUMENT, () -> p.addJob(0, 0, 21, 0, 0));
    due(4, "minutes below", ARGUMENT, () -> p.addJob(0, 0, 1, -1, 0));
    due(4, "minutes above", ARGUMENT, () -> p.addJob(0, 0, 1, 31, 0));
    due(4, "fine below", ARGUMENT, () -> p.addJob(0, 0, 1, 0, -1));
    due(4, "fine above", ARGUMENT, () -> p.addJob(0, 0, 1, 0, 1000));
    due(4, "nothing is added", 0, () -> p.jobs());
    due(4, "least", 0, () -> p.addJob(0, 0, 1, 0, 0));
    due(4, "most", 1, () -> p.addJob(0, 0, 20, 30, 999));
    due(4, "open", -1, () -> p.vehicleOf(1));
    due(4, "the fine counts", 999, () -> p.cost());
    due(4, "hours up to 1440", 0, () -> p.insert(0));
    due(4, "begins at 1440", 1440, () -> p.begins(0, 1));
    for (int n = 2; n < 9; n++) {
      int number = n;
      due(4, "next", number, () -> p.addJob(0, 0, 1, 0, 0));
    }
    due(4, "to above, 9 there", BOUNDS, () -> p.addJob(0, 1, 1, 0, 0));
    due(4, "load above, 9 there", ARGUMENT, () -> p.addJob(0, 0, 21, 0, 0));
    due(4, "9 there", STATE, () -> p.addJob(0, 0, 1, 0, 0));
    due(4, "9 still", 9, () -> p.jobs());
  }

  private static void setHours() {
    DroverPlan p = oneVehicle();
    due(5, "no job", BOUNDS, () -> p.setHours(0, true, 5, 4));
    p.addJob(1, 2, 1, 5, 100);
    p.addJob(3, 3, 1, 0, 100);
    due(5, "job below", BOUNDS, () -> p.setHours(-1, true, 0, 9));
    due(5, "from below", ARGUMENT, () -> p.setHours(0, true, -1, 9));
    due(5, "from above", ARGUMENT, () -> p.setHours(0, true, 1441, 1441));
    due(5, "to ahead of from", ARGUMENT, () -> p.setHours(0, false, 5, 4));
    due(5, "to above", ARGUMENT, () -> p.setHours(0, false, 0, 1441));
    due(5, "of an open job", true, () -> p.setHours(0, true, 0, 10));
    p.insert(0);
    due(5, "it arrives at the last minute", true, () -> p.setHours(0, true, 10, 10));
    due(5, "it arrives a minute late", false, () -> p.setHours(0, true, 0, 9));
    due(5, "the route is not right", false, () -> p.isRight(0));
    due(5, "those for bringing", false, () -> p.setHours(0, false, 25, 25));
    due(5, "right again", true, () -> p.setHours(0, true, 0, 1440));
    due(5, "late for bringing", false, () -> p.setHours(0, false, 0, 24));
    due(5, "another one's, and a route is not right", false, () -> p.setHours(1, true, 0, 1440));
    due(5, "back at the last minute", true, () -> p.setHours(0, false, 1440 - 25, 1440));
    due(5, "back a minute late", false, () -> p.setHours(0, false, 1440 - 24, 1440));
    p.setHours(0, false, 0, 1440);
    p.advance(1);
    due(5, "a set job, wrong hours", ARGUMENT, () -> p.setHours(0, true, 5, 4));
    due(5, "a set job, fetching", STATE, () -> p.setHours(0, true, 0, 9));
    due(5, "a set job, bringing", STATE, () -> p.setHours(0, false, 0, 9));
    due(5, "its hours are as they were", 10, () -> p.begins(0, 0));
  }

  // ---- changes

  private static void insert() {
    DroverPlan p = line();
    p.addVehicle(0, 10, 0, 1440, 1, 5);
    p.addVehicle(2, 10, 0, 1440, 2, 0);
    due(6, "no job", BOUNDS, () -> p.insert(0));
    p.addJob(1, 2, 3, 2, 100);
    p.addJob(1, 2, 3, 2, 100);
    p.addJob(1, 2, 5, 2, 100);
    p.addJob(0, 0, 11, 0, 0);
    due(6, "job below", BOUNDS, () -> p.insert(-1));
    due(6, "2 * 20 is less than 5 + 40", 40, () -> p.insert(0));
    due(6, "vehicle", 1, () -> p.vehicleOf(0));
    due(6, "planned", STATE, () -> p.insert(0));
    due(6, "on the same way", 0, () -> p.insert(1));
    due(6, "the smallest i, then the smallest k", "+1+0-1-0", () -> row(p, 1));
    due(6, "no room with both others", 40, () -> p.insert(2));
    due(6, "ahead of the others", "+2-2+1+0-1-0", () -> row(p, 1));
    due(6, "above all capacities", -1, () -> p.insert(3));
    due(6, "it stays open", -1, () -> p.vehicleOf(3));

    DroverPlan q = line();
    q.addVehicle(1, 10, 0, 1440, 1, 0);
    q.addVehicle(1, 10, 0, 1440, 1, 0);
    q.addJob(2, 3, 1, 0, 0);
    due(6, "as much for both", 40, () -> q.insert(0));
    due(6, "the smallest vehicle", 0, () -> q.vehicleOf(0));

    DroverPlan r = line();
    r.addJob(0, 1, 1, 0, 0);
    due(6, "without vehicles", -1, () -> r.insert(0));
    r.addVehicle(0, 10, 0, 19, 1, 0);
    due(6, "it would be back too late", -1, () -> r.insert(0));
    r.addVehicle(0, 10, 0, 20, 1, 0);
    due(6, "back at the last minute", 20, () -> r.insert(0));
    due(6, "by the second one", 1, () -> r.vehicleOf(0));
  }

  private static void insertAt() {
    DroverPlan p = oneVehicle();
    due(7, "no job", BOUNDS, () -> p.insertAt(0, 0, 0, 0));
    p.addJob(1, 2, 6, 2, 100);
    p.addJob(3, 1, 5, 2, 100);
    due(7, "job below", BOUNDS, () -> p.insertAt(-1, 0, 0, 1));
    due(7, "vehicle below", BOUNDS, () -> p.insertAt(0, -1, 0, 1));
    due(7, "vehicle above", BOUNDS, () -> p.insertAt(0, 1, 0, 0));
    due(7, "i below", ARGUMENT, () -> p.insertAt(0, 0, -1, 1));
    due(7, "i as k", ARGUMENT, () -> p.insertAt(0, 0, 0, 0));
    due(7, "i above k", ARGUMENT, () -> p.insertAt(0, 0, 1, 0));
    due(7, "k above", ARGUMENT, () -> p.insertAt(0, 0, 0, 2));
    due(7, "k most of all", ARGUMENT, () -> p.insertAt(0, 0, 0, Integer.MAX_VALUE));
    due(7, "first", 40, () -> p.insertAt(0, 0, 0, 1));
    due(7, "planned, k above", ARGUMENT, () -> p.insertAt(0, 0, 0, 4));
    due(7, "planned", STATE, () -> p.insertAt(0, 0, 0, 1));
    due(7, "load above the capacity", -1, () -> p.insertAt(1, 0, 1, 2));
    due(7, "load above the capacity, both apart", -1, () -> p.insertAt(1, 0, 0, 3));
    due(7, "nothing is done", "+0-0", () -> row(p, 0));
    due(7, "3 to 1 ahead of 1 to 2", 40, () -> p.insertAt(1, 0, 0, 1));
    due(7, "order", "+1-1+0-0", () -> row(p, 0));
    p.take(1);
    due(7, "behind", 20, () -> p.insertAt(1, 0, 2, 3));
    due(7, "order behind", "+0-0+1-1", () -> row(p, 0));
    p.addJob(1, 3, 4, 2, 100);
    due(7, "round the first", 0, () -> p.insertAt(2, 0, 0, 3));
    due(7, "order round", "+2+0-0-2+1-1", () -> row(p, 0));
    p.take(2);
    p.setHours(0, true, 0, 9);
    p.addJob(7, 7, 1, 0, 0);
    due(7, "a route that is not right", -1, () -> p.insertAt(3, 0, 4, 5));

    DroverPlan q = line();
    q.addVehicle(0, 5, 0, 100, 3, 7);
    q.addJob(1, 1, 5, 0, 0);
    due(7, "with the price for being used", 67, () -> q.insertAt(0, 0, 0, 1));
    q.addJob(2, 2, 5, 0, 0);
    due(7, "without it", 60, () -> q.insertAt(1, 0, 2, 3));
  }

  private static void insertAtWithClock() {
    DroverPlan p = oneVehicle();
    p.addJob(1, 2, 1, 5, 100);
    p.addJob(1, 2, 1, 5, 100);
    p.addJob(3, 3, 1, 5, 100);
    p.insertAt(0, 0, 0, 1);
    p.advance(15);
    due(7, "ahead of a stop that is set", -1, () -> p.insertAt(1, 0, 0, 2));
    due(7, "brought ahead of it", -1, () -> p.insertAt(1, 0, 0, 1));
    due(7, "behind it, as it leaves at the clock", 0, () -> p.insertAt(1, 0, 1, 2));
    due(7, "order", "+0+1-1-0", () -> row(p, 0));
    p.advance(35);
    due(7, "all are set", 4, () -> p.setStops(0));
    due(7, "clock", 50, () -> p.clock());
    due(7, "left the last stop below the clock", -1, () -> p.insertAt(2, 0, 4, 5));
    due(6, "left the last stop below the clock", -1, () -> p.insert(2));

    DroverPlan q = oneVehicle();
    q.addVehicle(0, 10, 4, 1440, 9, 0);
    q.addVehicle(0, 10, 5, 1440, 9, 9);
    q.addJob(1, 1, 1, 0, 0);
    q.advance(5);
    due(7, "left home below the clock", -1, () -> q.insertAt(0, 0, 0, 1));
    due(7, "left home a minute below the clock", -1, () -> q.insertAt(0, 1, 0, 1));
    due(7, "leaves home at the clock", 189, () -> q.insertAt(0, 2, 0, 1));

    // It waits at its last stop, which it leaves at 45, at the clock.
    DroverPlan r = oneVehicle();
    r.addJob(1, 1, 1, 0, 0);
    r.addJob(2, 2, 1, 0, 0);
    r.setHours(0, false, 45, 50);
    r.insert(0);
    r.advance(45);
    due(7, "all stops set", 2, () -> r.setStops(0));
    due(7, "the last one is left at the clock", 20, () -> r.insertAt(1, 0, 2, 3));
  }

  private static void take() {
    DroverPlan p = line();
    p.addVehicle(0, 10, 0, 1440, 2, 9);
    due(8, "no job", BOUNDS, () -> p.take(0));
    p.addJob(1, 2, 1, 1, 500);
    p.addJob(3, 3, 1, 1, 500);
    due(8, "job below", BOUNDS, () -> p.take(-1));
    due(8, "open", STATE, () -> p.take(0));
    p.insert(0);
    p.insert(1);
    due(8, "the farther one", 40, () -> p.take(1));
    due(8, "order", "+0-0", () -> row(p, 0));
    due(8, "it is open", -1, () -> p.vehicleOf(1));
    due(8, "the last one, with the price for being used", 89, () -> p.take(0));
    due(8, "no stops", 0, () -> p.stops(0));
    p.insert(0);
    p.insert(1);
    p.setHours(0, true, 0, 1);
    due(8, "a route that is not right behind", 40, () -> p.take(1));
    due(8, "it is not right", false, () -> p.isRight(0));
    due(8, "a route that is not right ahead", 89, () -> p.take(0));
    due(8, "it is right", true, () -> p.isRight(0));
    p.setHours(0, true, 0, 1440);
    p.insertAt(0, 0, 0, 1);
    p.insertAt(1, 0, 2, 3);
    p.advance(1);
    due(8, "set", STATE, () -> p.take(0));
    due(8, "not set", 40, () -> p.take(1));
    due(8, "what is set stays", 1, () -> p.setStops(0));
  }

  private static void rebuild() {
    due(9, "without anything", 0, () -> new DroverPlan().rebuild());
    DroverPlan p = new DroverPlan();
    p.addPlace(0, 0);
    p.addPlace(24, 0);
    p.addPlace(10, 0);
    p.addPlace(0, 10);
    p.addVehicle(0, 10, 0, 1440, 1, 0);
    p.addVehicle(1, 10, 0, 1440, 1, 0);
    // Each vehicle can be at one of both in time. It adds 20 or 28 for job 0, 20 or 68 for job 1.
    p.addJob(2, 2, 1, 0, 50);
    p.addJob(3, 3, 1, 0, 50);
    p.setHours(0, true, 60, 60);
    p.setHours(1, true, 60, 60);
    due(9, "both", 2, () -> p.rebuild());
    due(9, "the one with the greater regret was first", 0, () -> p.vehicleOf(1));
    due(9, "then the other one", 1, () -> p.vehicleOf(0));
    due(9, "all are planned", 0, () -> p.rebuild());

    // Job 1 has one vehicle only, as its load is too much for the other one: regret 9999.
    DroverPlan q = new DroverPlan();
    q.addPlace(0, 0);
    q.addPlace(24, 0);
    q.addPlace(10, 0);
    q.addPlace(12, 0);
    q.addVehicle(0, 10, 0, 1440, 1, 0);
    q.addVehicle(1, 5, 0, 1440, 9, 200);
    q.addJob(2, 2, 1, 0, 999);
    q.addJob(3, 3, 6, 0, 999);
    q.setHours(0, true, 60, 60);
    q.setHours(1, true, 60, 60);
    due(9, "both, one without a choice", 2, () -> q.rebuild());
    due(9, "that one was first", 0, () -> q.vehicleOf(1));
    due(9, "the other one took what was left", 1, () -> q.vehicleOf(0));
  }

  private static void rebuildTies() {
    // As much regret, 9999: the one that adds less is first, and leaves no time for the other one.
    DroverPlan p = oneVehicle();
    p.addJob(2, 2, 1, 0, 999);
    p.addJob(1, 1, 1, 0, 999);
    p.setHours(0, true, 60, 60);
    p.setHours(1, true, 60, 60);
    due(9, "one of both", 1, () -> p.rebuild());
    due(9, "that which adds less", 0, () -> p.vehicleOf(1));
    // As much for both: the one with the smallest number.
    DroverPlan q = oneVehicle();
    q.addJob(1, 1, 1, 0, 999);
    q.addJob(7, 7, 1, 0, 999);
    q.setHours(0, true, 60, 60);
    q.setHours(1, true, 60, 60);
    due(9, "one of two alike", 1, () -> q.rebuild());
    due(9, "the smallest number", 0, () -> q.vehicleOf(0));
    due(9, "not the other one", -1, () -> q.vehicleOf(1));
  }

  private static void rebuildAndFines() {
    DroverPlan p = oneVehicle();
    p.addJob(1, 1, 1, 0, 20);
    due(9, "it adds as much as the fine", 0, () -> p.rebuild());
    p.addJob(1, 1, 1, 0, 21);
    due(9, "it adds less, then the other one adds 0", 2, () -> p.rebuild());
    due(9, "both are planned", 40 - 20, () -> p.cost());

    // Vehicle 1 asks 4 a length: job 0 adds 10 or 8 * 29, above its fine, job 1 20 or 8 * 34.
    DroverPlan q = new DroverPlan();
    q.addPlace(0, 0);
    q.addPlace(24, 0);
    q.addPlace(0, 10);
    q.addPlace(0, 5);
    q.addVehicle(0, 10, 0, 1440, 1, 0);
    q.addVehicle(1, 10, 0, 1440, 4, 0);
    q.addJob(3, 3, 1, 0, 30);
    q.addJob(2, 2, 1, 0, 999);
    q.setHours(0, true, 60, 60);
    q.setHours(1, true, 60, 60);
    due(9, "regret 222", 232, () -> q.wouldAdd(0, 1));
    due(9, "regret 252", 272, () -> q.wouldAdd(1, 1));
    due(9, "the one whose fine is below the other insertion stays", 1, () -> q.rebuild());
    due(9, "regret counts as it is, though above the fine", 0, () -> q.vehicleOf(1));
    due(9, "the first one is open", -1, () -> q.vehicleOf(0));
  }

  private static void ruin() {
    DroverPlan p = oneVehicle();
    due(10, "many below", ARGUMENT, () -> p.ruin(0));
    due(10, "many above", ARGUMENT, () -> p.ruin(10));
    due(10, "nothing to take", 0, () -> p.ruin(9));
    p.addJob(1, 1, 1, 0, 0);
    p.addJob(2, 2, 1, 0, 0);
    p.addJob(7, 7, 1, 0, 0);
    p.addJob(7, 7, 1, 0, 0);
    due(10, "open ones only", 0, () -> p.ruin(1));
    p.insertAt(0, 0, 0, 1);
    p.insertAt(1, 0, 2, 3);
    p.insertAt(2, 0, 4, 5);
    p.insertAt(3, 0, 6, 7);
    due(10, "one", 1, () -> p.ruin(1));
    due(10, "that which saves 20", "+0-0+2-2+3-3", () -> row(p, 0));
    due(10, "two", 2, () -> p.ruin(2));
    due(10, "job 0 saves 20, then each of two alike 0: the smallest number", "+3-3", () -> row(p, 0));
    due(10, "at most as many as there are", 1, () -> p.ruin(9));

    DroverPlan q = oneVehicle();
    q.addJob(3, 3, 1, 0, 0);
    q.addJob(4, 4, 1, 0, 0);
    q.insert(0);
    q.insertAt(1, 0, 2, 3);
    q.advance(1);
    due(10, "one is set", true, () -> q.isSet(0));
    due(10, "not the one that is set", 1, () -> q.ruin(9));
    due(10, "that stays", 0, () -> q.vehicleOf(0));
  }

  private static void change() {
    DroverPlan p = oneVehicle();
    due(11, "kind below", ARGUMENT, () -> p.change(-1));
    due(11, "kind above", ARGUMENT, () -> p.change(4));
    for (int kind = 0; kind < 4; kind++) {
      int k = kind;
      due(11, "nothing to change", 0, () -> p.change(k));
    }
    // To 2, back to 1, and to 3: 20 + 10 + 20 + 30.
    p.addJob(2, 2, 1, 0, 0);
    p.addJob(1, 1, 1, 0, 0);
    p.addJob(3, 3, 1, 0, 0);
    p.insertAt(0, 0, 0, 1);
    p.insertAt(1, 0, 2, 3);
    p.insertAt(2, 0, 4, 5);
    due(11, "moved", 20, () -> p.change(0));
    due(11, "behind the next one, its first insertion", "+1-1+0-0+2-2", () -> row(p, 0));
    due(11, "no more", 0, () -> p.change(0));

    DroverPlan q = oneVehicle();
    q.addVehicle(6, 10, 0, 1440, 1, 0);
    q.addJob(1, 1, 1, 0, 0);
    q.addJob(5, 5, 1, 0, 0);
    q.insertAt(0, 1, 0, 1);
    q.insertAt(1, 0, 0, 1);
    q.addJob(5, 5, 1, 0, 0);
    q.addJob(1, 1, 1, 0, 0);
    q.insertAt(2, 1, 2, 3);
    q.insertAt(3, 0, 2, 3);
    // 0 to 5, 1 and home are 100, and 6 to 1, 5 and home as many.
    due(11, "changed with another one", 160, () -> q.change(1));
    due(11, "first route", "+0-0+3-3", () -> row(q, 0));
    due(11, "second route", "+1-1+2-2", () -> row(q, 1));
    due(11, "cost", 40, () -> q.cost());

    DroverPlan r = oneVehicle();
    r.addJob(3, 1, 1, 0, 0);
    r.addJob(2, 0, 1, 0, 0);
    r.insertAt(0, 0, 0, 1);
    r.insertAt(1, 0, 2, 3);
    // 30 + 20 + 10 + 20: with 2 ahead of 1, 30 + 10 + 10 + 10.
    due(11, "turned round", 20, () -> r.change(2));
    due(11, "order", "+0+1-0-1", () -> row(r, 0));

    DroverPlan s = oneVehicle();
    s.addVehicle(6, 10, 0, 1440, 1, 0);
    s.addJob(1, 1, 1, 0, 0);
    s.addJob(5, 5, 1, 0, 0);
    s.addJob(4, 4, 1, 0, 0);
    s.insertAt(0, 0, 0, 1);
    s.insertAt(1, 0, 2, 3);
    s.insertAt(2, 0, 4, 5);
    // Its end goes to the other vehicle, that has none: 100 become 20 and 40.
    due(11, "ends changed", 40, () -> s.change(3));
    due(11, "first one", "+0-0", () -> row(s, 0));
    due(11, "second one", "+1-1+2-2", () -> row(s, 1));
  }

  private static void changeTies() {
    // Kind 0: both jobs gain 40 by going home to vehicle 1 or 2; job 0 and vehicle 1 are first.
    DroverPlan p = oneVehicle();
    p.addVehicle(2, 10, 0, 1440, 1, 0);
    p.addVehicle(2, 10, 0, 1440, 1, 0);
    p.addJob(2, 2, 1, 0, 0);
    p.addJob(2, 2, 20, 0, 0);
    p.insertAt(0, 0, 0, 1);
    due(11, "gain", 40, () -> p.change(0));
    due(11, "the smallest vehicle of two", 1, () -> p.vehicleOf(0));

    // Kind 2: 40, 20, 30, 10, 20, 0: each of both ways to and fro can be turned, and gains 20.
    DroverPlan q = oneVehicle();
    q.addJob(4, 2, 1, 0, 0);
    q.addJob(3, 1, 1, 0, 0);
    q.addJob(2, 0, 1, 0, 0);
    q.insertAt(0, 0, 0, 1);
    q.insertAt(1, 0, 2, 3);
    q.insertAt(2, 0, 4, 5);
    due(11, "one of two turns", 20, () -> q.change(2));
    due(11, "the smallest i", "+0+1-0-1+2-2", () -> row(q, 0));

    // Kind 1: jobs 0 and 1 are alike, so job 2 gains 80 with either of them.
    DroverPlan r = oneVehicle();
    r.addVehicle(6, 10, 0, 1440, 1, 0);
    r.addJob(5, 5, 1, 0, 0);
    r.addJob(5, 5, 1, 0, 0);
    r.addJob(1, 1, 1, 0, 0);
    r.insertAt(0, 0, 0, 1);
    r.insertAt(1, 0, 2, 3);
    r.insertAt(2, 1, 0, 1);
    due(11, "one of two jobs alike", 80, () -> r.change(1));
    due(11, "the smaller number", "+2-2+1-1", () -> row(r, 0));
    due(11, "the smaller number, there", "+0-0", () -> row(r, 1));

    // Kind 3: the end of vehicle 0 is as well with 1 as with 2; the smaller one is first.
    DroverPlan s = oneVehicle();
    s.addVehicle(5, 10, 0, 1440, 1, 0);
    s.addVehicle(5, 10, 0, 1440, 1, 0);
    s.addJob(5, 5, 1, 0, 0);
    s.addJob(1, 1, 1, 0, 0);
    s.insertAt(1, 0, 0, 1);
    s.insertAt(0, 0, 2, 3);
    due(11, "gain by the end", 80, () -> s.change(3));
    due(11, "the smaller vehicle", 1, () -> s.vehicleOf(0));
  }

  private static void changesNotAllowed() {
    // The change would gain 40, but the vehicle at 2 is too small.
    DroverPlan p = oneVehicle();
    p.addVehicle(2, 1, 0, 1440, 1, 0);
    p.addJob(2, 2, 2, 0, 0);
    p.insert(0);
    p.take(0);
    p.insertAt(0, 0, 0, 1);
    due(11, "above its capacity, kind 0", 0, () -> p.change(0));
    due(11, "above its capacity, kind 3", 0, () -> p.change(3));

    // Vehicle 1 has left its home below the clock, so nothing comes into its route.
    DroverPlan q = line();
    q.addVehicle(0, 9, 10, 1440, 1, 0);
    q.addVehicle(2, 9, 0, 1440, 1, 0);
    q.addJob(2, 2, 2, 0, 0);
    q.insertAt(0, 0, 0, 1);
    due(38, "ahead of its time", 40, () -> q.gain(0));
    due(38, "ahead of its time, ends", 40, () -> q.gain(3));
    q.advance(1);
    due(11, "it has left, kind 0", 0, () -> q.change(0));
    due(11, "it has left, kind 3", 0, () -> q.change(3));

    // A route that is not right stays behind: it is not changed, unless it is right then.
    DroverPlan r = line();
    r.addVehicle(0, 9, 0, 1440, 1, 0);
    r.addVehicle(2, 9, 0, 1440, 1, 0);
    r.addJob(2, 2, 2, 0, 0);
    r.addJob(1, 1, 2, 0, 0);
    r.insertAt(0, 0, 0, 1);
    r.insertAt(1, 0, 2, 3);
    r.setHours(1, true, 0, 9);
    due(11, "job 0 would leave a route that is not right", 0, () -> r.change(0));
    r.setHours(1, true, 0, 10);
    due(11, "without job 0 it is right", 20, () -> r.change(0));
    due(11, "both are right", true, () -> r.isRight(0) && r.isRight(1));

    // A job that is set is not moved, nor changed with another one.
    DroverPlan s = oneVehicle();
    s.addVehicle(2, 9, 0, 1440, 1, 0);
    s.addJob(2, 2, 2, 0, 0);
    s.addJob(0, 0, 2, 0, 0);
    s.insertAt(0, 0, 0, 1);
    s.insertAt(1, 1, 0, 1);
    due(38, "changed with one another", 80, () -> s.gain(1));
    s.advance(1);
    for (int kind = 0; kind < 4; kind++) {
      int k = kind;
      due(11, "what is set stays", 0, () -> s.change(k));
    }

    // Both jobs are set, 30, then 10, 20: where they are brought can be turned round only.
    DroverPlan t = oneVehicle();
    t.addJob(3, 1, 1, 9, 0);
    t.addJob(3, 2, 1, 9, 0);
    t.insertAt(0, 0, 0, 1);
    t.insertAt(1, 0, 1, 3);
    due(11, "order ahead", "+0+1-0-1", () -> row(t, 0));
    due(38, "not set yet, moved", 20, () -> t.gain(0));
    due(38, "not set yet, changed", 20, () -> t.gain(1));
    t.advance(40);
    due(11, "two are set", 2, () -> t.setStops(0));
    due(11, "not moved", 0, () -> t.change(0));
    due(11, "not changed with one another", 0, () -> t.change(1));
    due(11, "turned round", 20, () -> t.change(2));
    due(11, "order behind", "+0+1-1-0", () -> row(t, 0));
  }

  private static void improve() {
    DroverPlan p = oneVehicle();
    due(12, "most below", ARGUMENT, () -> p.improve(0));
    due(12, "most above", ARGUMENT, () -> p.improve(11));
    due(12, "nothing to improve", 0, () -> p.improve(10));
    p.addVehicle(6, 10, 0, 1440, 1, 0);
    p.addJob(1, 1, 1, 0, 0);
    p.addJob(5, 5, 1, 0, 0);
    p.insertAt(0, 1, 0, 1);
    p.insertAt(1, 0, 0, 1);
    // Job 0 is on the way of vehicle 0, which saves 100; both the other way round are 20 each.
    due(12, "gain 0", 100, () -> p.gain(0));
    due(12, "gain 1", 160, () -> p.gain(1));
    due(12, "gain 3", 160, () -> p.gain(3));
    due(12, "the kind with the greatest gain", 160, () -> p.improve(1));
    due(12, "cost", 40, () -> p.cost());
    due(12, "no more", 0, () -> p.improve(10));

    // Two jobs, each at the far vehicle; the second change only follows with most 2.
    DroverPlan q = oneVehicle();
    q.addVehicle(6, 10, 0, 1440, 2, 0);
    q.addJob(6, 6, 8, 0, 0);
    q.addJob(1, 1, 8, 0, 0);
    q.addJob(4, 4, 8, 0, 0);
    q.insertAt(2, 0, 0, 1);
    q.insertAt(0, 0, 2, 3);
    q.insertAt(1, 0, 4, 5);
    due(12, "cost ahead", 120, () -> q.cost());
    due(12, "job 0 goes, and saves 120 less 80", 40, () -> q.improve(1));
    due(12, "job 0 goes", 1, () -> q.vehicleOf(0));
    due(12, "the sum of the gains", 0, () -> q.improve(10));

    // Kinds 0 and 1 gain 20 in the first route, kinds 0 and 2 in the second one.
    DroverPlan r = line();
    r.addVehicle(0, 20, 0, 1440, 1, 0);
    r.addVehicle(6, 10, 0, 1440, 1, 0);
    r.addJob(1, 1, 1, 0, 0);
    r.addJob(3, 3, 20, 0, 0);
    r.addJob(2, 0, 1, 0, 0);
    r.addJob(3, 5, 1, 0, 0);
    r.addJob(4, 6, 1, 0, 0);
    r.insertAt(1, 0, 0, 1);
    r.insertAt(0, 0, 2, 3);
    r.insertAt(2, 0, 4, 5);
    r.insertAt(3, 1, 0, 1);
    r.insertAt(4, 1, 2, 3);
    due(12, "kind 0", 20, () -> r.gain(0));
    due(12, "kind 1", 20, () -> r.gain(1));
    due(12, "kind 2", 20, () -> r.gain(2));
    due(12, "of several kinds the smallest", 20, () -> r.improve(1));
    due(12, "as kind 0 does it", "+0-0+1-1+2-2", () -> row(r, 0));
    due(12, "the other route stays", "+3-3+4-4", () -> row(r, 1));
    due(12, "then the other one", 20, () -> r.improve(10));

    // Only the price for being used is less, by 1.
    DroverPlan t = line();
    t.addVehicle(0, 10, 0, 1440, 1, 6);
    t.addVehicle(0, 10, 0, 1440, 1, 5);
    t.addJob(1, 1, 1, 0, 0);
    t.insertAt(0, 0, 0, 1);
    due(38, "a gain of 1", 1, () -> t.gain(0));
    due(12, "a gain of 1", 1, () -> t.improve(10));
    due(12, "the cheaper vehicle", 1, () -> t.vehicleOf(0));
  }

  private static void repair() {
    DroverPlan p = oneVehicle();
    due(13, "vehicle below", BOUNDS, () -> p.repair(-1));
    due(13, "vehicle above", BOUNDS, () -> p.repair(1));
    due(13, "without stops", 0, () -> p.repair(0));
    p.addJob(1, 1, 1, 0, 0);
    p.addJob(2, 2, 1, 0, 0);
    p.addJob(3, 3, 1, 0, 0);
    p.insertAt(0, 0, 0, 1);
    p.insertAt(1, 0, 2, 3);
    p.insertAt(2, 0, 4, 5);
    due(13, "right", 0, () -> p.repair(0));
    p.setHours(1, true, 0, 19);
    due(13, "only without job 1", 1, () -> p.repair(0));
    due(13, "job 1 is out", "+0-0+2-2", () -> row(p, 0));
    // Job 0 begins at 15, so job 2 comes 5 late; without either one it is right; 20 is less than 60.
    p.setHours(0, true, 15, 1440);
    p.setHours(2, true, 0, 34);
    due(13, "not right", false, () -> p.isRight(0));
    due(13, "one of both", 1, () -> p.repair(0));
    due(13, "the one without which it costs least", "+0-0", () -> row(p, 0));

    DroverPlan q = oneVehicle();
    q.addJob(1, 1, 1, 30, 0);
    q.addJob(1, 1, 1, 30, 0);
    q.insertAt(1, 0, 0, 1);
    q.insertAt(0, 0, 2, 3);
    q.setHours(0, false, 0, 129);
    q.setHours(1, false, 0, 70);
    due(13, "right so far", true, () -> q.isRight(0));
    q.setHours(0, false, 0, 99);
    due(13, "without either one it is right", 1, () -> q.repair(0));
    due(13, "of both the smallest number", "+1-1", () -> row(q, 0));

    DroverPlan r = oneVehicle();
    for (int n = 0; n < 3; n++) {
      r.addJob(1, 1, 1, 0, 0);
      r.insertAt(n, 0, 0, 1);
    }
    for (int n = 0; n < 3; n++) {
      r.setHours(n, true, 0, 9);
    }
    r.setHours(1, true, 0, 10);
    due(13, "without no single one: the greatest number, then job 0", 2, () -> r.repair(0));
    due(13, "job 1 is left", "+1-1", () -> row(r, 0));

    DroverPlan s = oneVehicle();
    s.addVehicle(0, 9, 0, 1440, 1, 0);
    s.addJob(1, 1, 1, 0, 0);
    s.insertAt(0, 1, 0, 1);
    s.setHours(0, false, 0, 9);
    due(13, "another route", 0, () -> s.repair(0));
    due(13, "this route", 1, () -> s.repair(1));
  }

  private static void repairWithSetStops() {
    DroverPlan p = oneVehicle();
    p.addJob(1, 1, 1, 0, 0);
    p.addJob(2, 2, 1, 0, 0);
    p.addJob(3, 3, 1, 0, 0);
    p.insertAt(0, 0, 0, 1);
    p.insertAt(1, 0, 2, 3);
    p.insertAt(2, 0, 4, 5);
    p.advance(1);
    p.setHours(1, true, 0, 5);
    p.setHours(2, true, 0, 5);
    due(13, "both that are not set", 2, () -> p.repair(0));
    due(13, "the one that is set stays", "+0-0", () -> row(p, 0));
    due(13, "its stop is set", 1, () -> p.setStops(0));

    // The set one comes home in time only without the other one.
    DroverPlan q = oneVehicle();
    q.addJob(0, 6, 1, 0, 0);
    q.addJob(1, 1, 1, 30, 0);
    q.insertAt(0, 0, 0, 1);
    q.advance(1);
    due(13, "two are set", 2, () -> q.setStops(0));
    due(13, "nothing to do", 0, () -> q.repair(0));
    due(13, "all that are left are set", "+0-0", () -> row(q, 0));
  }

  private static void advance() {
    DroverPlan p = oneVehicle();
    due(14, "minutes below", ARGUMENT, () -> p.advance(0));
    due(14, "minutes above", ARGUMENT, () -> p.advance(1441));
    p.addJob(1, 2, 1, 5, 100);
    p.insert(0);
    p.setHours(0, true, 0, 1);
    due(14, "not right, minutes above", ARGUMENT, () -> p.advance(1441));
    due(14, "not right", STATE, () -> p.advance(1));
    due(14, "the clock stays", 0, () -> p.clock());
    p.setHours(0, true, 0, 1440);
    due(14, "it left home", 1, () -> p.advance(1));
    due(14, "it leaves the first stop at 15, at the clock", 0, () -> p.advance(14));
    due(14, "it left the first stop", 1, () -> p.advance(1));
    due(14, "no more", 0, () -> p.advance(1424));
    due(14, "clock", 1440, () -> p.clock());
    due(14, "above 1440", STATE, () -> p.advance(1));
    due(14, "above 1440, minutes below", ARGUMENT, () -> p.advance(0));

    DroverPlan q = new DroverPlan();
    due(14, "all of the day", 0, () -> q.advance(1440));
    due(14, "clock at the end", 1440, () -> q.clock());

    DroverPlan r = line();
    r.addVehicle(0, 9, 0, 1440, 1, 0);
    r.addVehicle(0, 9, 7, 1440, 1, 0);
    r.addJob(0, 0, 1, 0, 0);
    r.addJob(0, 0, 1, 0, 0);
    r.insertAt(0, 0, 0, 1);
    r.insertAt(1, 1, 0, 1);
    due(14, "of the first route only", 2, () -> r.advance(7));
    due(14, "then of the second one", 2, () -> r.advance(1));
  }

  // ---- asking

  private static void setStops() {
    DroverPlan p = oneVehicle();
    due(23, "vehicle below", BOUNDS, () -> p.setStops(-1));
    due(23, "vehicle above", BOUNDS, () -> p.setStops(1));
    p.addJob(1, 2, 1, 5, 100);
    p.addJob(3, 3, 1, 5, 100);
    p.insertAt(0, 0, 0, 1);
    p.insertAt(1, 0, 2, 3);
    due(23, "none", 0, () -> p.setStops(0));
    p.advance(16);
    due(23, "two", 2, () -> p.setStops(0));
    p.take(1);
    due(23, "two still", 2, () -> p.setStops(0));
  }

  private static void counts() {
    DroverPlan p = oneVehicle();
    due(15, "clock", 0, () -> p.clock());
    p.advance(3);
    p.advance(4);
    due(15, "clock later", 7, () -> p.clock());
    due(16, "places", 8, () -> p.places());
    due(17, "vehicles", 1, () -> p.vehicles());
    due(18, "jobs", 0, () -> p.jobs());
    p.addJob(0, 1, 1, 0, 0);
    p.addJob(0, 1, 1, 0, 0);
    p.addVehicle(0, 1, 0, 9, 1, 0);
    p.addPlace(5, 5);
    due(16, "places then", 9, () -> p.places());
    due(17, "vehicles then", 2, () -> p.vehicles());
    due(18, "jobs then", 2, () -> p.jobs());
  }

  private static void way() {
    DroverPlan p = new DroverPlan();
    p.addPlace(3, 50);
    p.addPlace(20, 8);
    due(19, "along x and y", 17 + 42, () -> p.way(0, 1));
    due(19, "the other way", 17 + 42, () -> p.way(1, 0));
    due(19, "to itself", 0, () -> p.way(1, 1));
    due(19, "from below", BOUNDS, () -> p.way(-1, 0));
    due(19, "from above", BOUNDS, () -> p.way(2, 0));
    due(19, "to below", BOUNDS, () -> p.way(0, -1));
    due(19, "to above", BOUNDS, () -> p.way(0, 2));
    due(19, "to above all", BOUNDS, () -> p.way(0, 12));
  }

  private static void vehicleOfAndIsSet() {
    DroverPlan p = oneVehicle();
    p.addVehicle(0, 10, 0, 1440, 1, 0);
    p.addJob(1, 2, 1, 5, 100);
    p.addJob(2, 3, 1, 5, 100);
    due(20, "job below", BOUNDS, () -> p.vehicleOf(-1));
    due(20, "job above", BOUNDS, () -> p.vehicleOf(2));
    due(20, "open", -1, () -> p.vehicleOf(0));
    due(21, "job below", BOUNDS, () -> p.isSet(-1));
    due(21, "job above", BOUNDS, () -> p.isSet(2));
    due(21, "open", false, () -> p.isSet(0));
    p.insertAt(0, 1, 0, 1);
    p.insertAt(1, 1, 2, 3);
    due(20, "planned", 1, () -> p.vehicleOf(0));
    due(20, "planned too", 1, () -> p.vehicleOf(1));
    due(21, "planned", false, () -> p.isSet(0));
    p.advance(1);
    due(21, "one stop of it is set", true, () -> p.isSet(0));
    due(21, "none of it", false, () -> p.isSet(1));
    p.advance(40);
    due(21, "both are set", true, () -> p.isSet(0) && p.isSet(1));
  }

  private static void stopsOfRoute() {
    DroverPlan p = oneVehicle();
    due(22, "vehicle below", BOUNDS, () -> p.stops(-1));
    due(22, "vehicle above", BOUNDS, () -> p.stops(1));
    due(22, "none", 0, () -> p.stops(0));
    due(24, "no stop", BOUNDS, () -> p.jobAt(0, 0));
    p.addJob(1, 3, 4, 5, 100);
    p.addJob(2, 2, 5, 5, 100);
    p.insertAt(0, 0, 0, 1);
    p.insertAt(1, 0, 1, 2);
    due(22, "four", 4, () -> p.stops(0));
    int[] jobs = {0, 1, 1, 0};
    boolean[] fetched = {true, true, false, false};
    int[] loads = {4, 9, 4, 0};
    for (int n = 0; n < 4; n++) {
      int s = n;
      due(24, "job at " + s, jobs[s], () -> p.jobAt(0, s));
      due(25, "fetched at " + s, fetched[s], () -> p.isFetched(0, s));
      due(28, "load behind " + s, loads[s], () -> p.loadBehind(0, s));
    }
    for (int[] no : new int[][] {{-1, 0}, {1, 0}, {0, -1}, {0, 4}, {0, 18}, {3, 0}}) {
      due(24, "no such stop", BOUNDS, () -> p.jobAt(no[0], no[1]));
      due(25, "no such stop", BOUNDS, () -> p.isFetched(no[0], no[1]));
      due(26, "no such stop", BOUNDS, () -> p.arrives(no[0], no[1]));
      due(27, "no such stop", BOUNDS, () -> p.begins(no[0], no[1]));
      due(28, "no such stop", BOUNDS, () -> p.loadBehind(no[0], no[1]));
      due(29, "no such stop", BOUNDS, () -> p.slack(no[0], no[1]));
      due(39, "no such stop", BOUNDS, () -> p.laterBack(no[0], no[1], -1));
    }
  }

  private static void timesOfRoute() {
    DroverPlan p = line();
    p.addVehicle(7, 10, 100, 1440, 1, 0);
    p.addJob(1, 3, 4, 5, 100);
    p.setHours(0, true, 130, 200);
    p.insert(0);
    due(26, "leaves at 100, and goes 20", 120, () -> p.arrives(0, 0));
    due(27, "waits till the hours begin", 130, () -> p.begins(0, 0));
    due(26, "5 minutes, and 20 to go", 155, () -> p.arrives(0, 1));
    due(27, "begins as it arrives", 155, () -> p.begins(0, 1));
    p.setHours(0, true, 120, 200);
    due(27, "the hours begin as it arrives", 120, () -> p.begins(0, 0));
    p.setHours(0, true, 0, 50);
    due(27, "too late, it begins all the same", 120, () -> p.begins(0, 0));
    due(26, "the next one", 145, () -> p.arrives(0, 1));
  }

  private static void slack() {
    DroverPlan p = line();
    p.addVehicle(0, 10, 0, 100, 1, 0);
    p.addJob(1, 2, 4, 5, 100);
    p.insert(0);
    // It is back at 50.
    due(29, "up to being back", 50, () -> p.slack(0, 0));
    due(29, "behind", 50, () -> p.slack(0, 1));
    p.setHours(0, false, 40, 60);
    // It waits 15 there, leaves at 45, and is back at 65.
    due(29, "up to the end of the hours", 35, () -> p.slack(0, 0));
    due(29, "at the stop itself", 35, () -> p.slack(0, 1));
    p.setHours(0, true, 0, 12);
    due(29, "the hours of the stop itself", 2, () -> p.slack(0, 0));
    due(29, "not those ahead", 35, () -> p.slack(0, 1));
    p.setHours(0, true, 0, 10);
    due(29, "none", 0, () -> p.slack(0, 0));
    p.setHours(0, true, 0, 9);
    due(29, "late as it is", -1, () -> p.slack(0, 0));
    due(29, "late ahead only", 35, () -> p.slack(0, 1));
    p.setHours(0, true, 0, 100);
    p.setHours(0, false, 75, 90);
    due(29, "just back in time, at the last minute to begin", 50, () -> p.slack(0, 1));
    p.setHours(0, false, 76, 90);
    due(29, "back late, however early it arrives", -1, () -> p.slack(0, 0));
    due(29, "back late too", -1, () -> p.slack(0, 1));

    DroverPlan q = oneVehicle();
    q.addJob(1, 1, 6, 0, 100);
    q.insert(0);
    due(29, "all day", 1420, () -> q.slack(0, 0));
  }

  private static void backAndWaits() {
    DroverPlan p = line();
    p.addVehicle(0, 10, 30, 1000, 1, 0);
    due(30, "vehicle below", BOUNDS, () -> p.back(-1));
    due(30, "vehicle above", BOUNDS, () -> p.back(1));
    due(31, "vehicle below", BOUNDS, () -> p.waits(-1));
    due(31, "vehicle above", BOUNDS, () -> p.waits(1));
    due(30, "without stops", 30, () -> p.back(0));
    due(31, "without stops", 0, () -> p.waits(0));
    p.addJob(1, 2, 1, 4, 0);
    p.insert(0);
    due(30, "behind both", 30 + 40 + 8, () -> p.back(0));
    due(31, "none", 0, () -> p.waits(0));
    p.setHours(0, true, 45, 1000);
    due(31, "at the first", 5, () -> p.waits(0));
    due(30, "later", 83, () -> p.back(0));
    p.setHours(0, false, 66, 1000);
    due(31, "at both", 5 + 7, () -> p.waits(0));
    due(30, "later still", 90, () -> p.back(0));
  }

  private static void isRight() {
    DroverPlan p = line();
    p.addVehicle(0, 10, 0, 50, 1, 0);
    due(32, "vehicle below", BOUNDS, () -> p.isRight(-1));
    due(32, "vehicle above", BOUNDS, () -> p.isRight(1));
    due(32, "without stops", true, () -> p.isRight(0));
    p.addJob(1, 2, 10, 5, 0);
    p.insert(0);
    due(32, "full, and back at the last minute", true, () -> p.isRight(0));
    p.setHours(0, true, 11, 20);
    due(32, "back a minute late", false, () -> p.isRight(0));
    p.setHours(0, true, 0, 10);
    due(32, "begins at the last minute", true, () -> p.isRight(0));
    p.setHours(0, true, 0, 9);
    due(32, "begins a minute late", false, () -> p.isRight(0));
    p.setHours(0, true, 0, 10);
    p.setHours(0, false, 0, 24);
    due(32, "is brought a minute late", false, () -> p.isRight(0));
  }

  private static void costs() {
    DroverPlan p = line();
    p.addVehicle(0, 10, 0, 1440, 3, 20);
    p.addVehicle(6, 10, 0, 1440, 2, 7);
    p.addJob(1, 2, 1, 0, 150);
    p.addJob(5, 4, 1, 0, 60);
    for (int no : new int[] {-1, 2, 3}) {
      due(33, "no such vehicle", BOUNDS, () -> p.length(no));
      due(34, "no such vehicle", BOUNDS, () -> p.costOf(no));
    }
    due(33, "without stops", 0, () -> p.length(0));
    due(34, "without stops", 0, () -> p.costOf(0));
    due(35, "the fines", 210, () -> p.cost());
    p.insertAt(0, 0, 0, 1);
    due(33, "there and back", 40, () -> p.length(0));
    due(34, "price and fixed price", 140, () -> p.costOf(0));
    due(35, "a route and a fine", 200, () -> p.cost());
    p.insertAt(1, 1, 0, 1);
    due(33, "of the second one", 40, () -> p.length(1));
    due(34, "of the second one", 87, () -> p.costOf(1));
    due(35, "both routes", 227, () -> p.cost());
    p.take(0);
    due(34, "none again", 0, () -> p.costOf(0));
  }

  private static void fullness() {
    DroverPlan p = line();
    due(36, "without vehicles", 0.0, () -> p.fullness());
    p.addVehicle(0, 10, 0, 1440, 3, 20);
    p.addVehicle(6, 3, 0, 1440, 2, 7);
    due(36, "without stops", 0.0, () -> p.fullness());
    p.addJob(1, 2, 5, 0, 150);
    p.addJob(4, 5, 2, 0, 60);
    p.insertAt(0, 0, 0, 1);
    due(36, "10 times 5 of 40 times 10", 50.0 / 400.0, () -> p.fullness());
    p.insertAt(1, 1, 0, 1);
    due(36, "both vehicles, divided once", 70.0 / 520.0, () -> p.fullness());
    DroverPlan q = oneVehicle();
    q.addJob(0, 0, 5, 0, 150);
    q.insert(0);
    due(36, "no length", 0.0, () -> q.fullness());
    q.addJob(1, 1, 5, 0, 150);
    q.insertAt(1, 0, 1, 2);
    due(36, "to the stop and back to home with a load", 5.0 * 20 / 200, () -> q.fullness());
  }

  // ---- what would be

  private static void wouldAdd() {
    DroverPlan p = line();
    p.addVehicle(0, 10, 0, 1440, 1, 5);
    p.addVehicle(6, 4, 0, 1440, 2, 0);
    p.addJob(1, 2, 5, 0, 150);
    p.addJob(2, 3, 2, 0, 150);
    for (int no : new int[] {-1, 2}) {
      due(37, "no such job", BOUNDS, () -> p.wouldAdd(no, 0));
      due(37, "no such vehicle", BOUNDS, () -> p.wouldAdd(0, no));
    }
    due(37, "into an empty one", 45, () -> p.wouldAdd(0, 0));
    due(37, "too much", -1, () -> p.wouldAdd(0, 1));
    due(37, "nothing is changed", 0, () -> p.stops(0));
    p.insert(0);
    due(37, "the best one", 20, () -> p.wouldAdd(1, 0));
    due(37, "the other vehicle", 160, () -> p.wouldAdd(1, 1));
    due(37, "planned", STATE, () -> p.wouldAdd(0, 1));
    due(37, "planned, no such vehicle", BOUNDS, () -> p.wouldAdd(0, 2));
    p.advance(1);
    due(37, "left its home", -1, () -> p.wouldAdd(1, 1));
    due(37, "behind what is set", 20, () -> p.wouldAdd(1, 0));
  }

  private static void gain() {
    DroverPlan p = oneVehicle();
    due(38, "kind below", ARGUMENT, () -> p.gain(-1));
    due(38, "kind above", ARGUMENT, () -> p.gain(4));
    due(38, "none", 0, () -> p.gain(3));
    p.addVehicle(6, 10, 0, 1440, 1, 0);
    p.addJob(1, 1, 1, 0, 0);
    p.addJob(5, 5, 1, 0, 0);
    p.insertAt(0, 1, 0, 1);
    p.insertAt(1, 0, 0, 1);
    due(38, "kind 1", 160, () -> p.gain(1));
    due(38, "kind 2", 0, () -> p.gain(2));
    due(38, "nothing is changed", 200, () -> p.cost());
    due(38, "as before", "+1-1", () -> row(p, 0));
  }

  private static void laterBack() {
    DroverPlan p = line();
    p.addVehicle(0, 10, 0, 100, 1, 0);
    due(39, "no vehicle", BOUNDS, () -> p.laterBack(1, 0, -1));
    p.addJob(1, 2, 4, 5, 100);
    p.insert(0);
    due(39, "no stop, minutes below", BOUNDS, () -> p.laterBack(0, 2, -1));
    due(39, "minutes below", ARGUMENT, () -> p.laterBack(0, 0, -1));
    due(39, "minutes above", ARGUMENT, () -> p.laterBack(0, 0, 1441));
    due(39, "no minutes", 0, () -> p.laterBack(0, 0, 0));
    due(39, "as many", 7, () -> p.laterBack(0, 0, 7));
    due(39, "not right then", 1440, () -> p.laterBack(0, 1, 1440));
    p.setHours(0, false, 35, 60);
    // It arrives there at 25, and waits 10.
    due(39, "within the waiting", 0, () -> p.laterBack(0, 0, 10));
    due(39, "more than the waiting", 3, () -> p.laterBack(0, 0, 13));
    due(39, "at the stop itself", 3, () -> p.laterBack(0, 1, 13));
    due(39, "nothing is changed", 60, () -> p.back(0));
  }

  private static void costWithout() {
    DroverPlan p = line();
    p.addVehicle(0, 10, 0, 1440, 3, 20);
    p.addJob(1, 1, 1, 0, 150);
    p.addJob(2, 2, 1, 0, 60);
    p.addJob(3, 3, 1, 0, 9);
    due(40, "job below", BOUNDS, () -> p.costWithout(-1));
    due(40, "job above", BOUNDS, () -> p.costWithout(3));
    due(40, "open", 219 - 60, () -> p.costWithout(1));
    p.insert(0);
    due(40, "the only one", 69, () -> p.costWithout(0));
    p.insert(1);
    due(40, "planned", 20 + 60 + 9, () -> p.costWithout(1));
    due(40, "on the way", 20 + 120 + 9, () -> p.costWithout(0));
    p.advance(200);
    due(40, "set", 20 + 60 + 9, () -> p.costWithout(1));
    due(40, "nothing is changed", 149, () -> p.cost());
  }

  private static long mixed(long d, int... numbers) {
    long sum = d;
    for (int x : numbers) {
      sum = sum * 31 + x;
    }
    return sum;
  }

  private static void digest() {
    long none = mixed(58033, 0, 0, 0, 0, 0, 0, 0, 0, 0);
    due(41, "of a new object", none, () -> new DroverPlan().digest());
    DroverPlan p = line();
    p.addVehicle(0, 10, 0, 100, 2, 9);
    p.addVehicle(0, 10, 3, 100, 1, 9);
    p.addJob(1, 2, 4, 5, 100);
    p.addJob(1, 1, 11, 5, 70);
    p.setHours(0, true, 12, 40);
    p.insertAt(0, 0, 0, 1);
    // It waits 2, begins at 12, is at 2 at 27, and back at 52.
    long d = mixed(58033, 0, 8, 2, 2, 89 + 70);
    d = mixed(d, 2, 0, 52, 2, 1, 40, 89);
    d = mixed(d, 0, 1, 10, 12, 4, 30);
    d = mixed(d, 0, 0, 27, 27, 0, 48);
    d = mixed(d, 0, 0, 3, 0, 1, 0, 0);
    d = mixed(d, 0, 0, -1, 0);
    long due = mixed(d, 40, 0, 0, 40);
    due(41, "of two vehicles and two jobs", due, () -> p.digest());
    due(41, "nothing is changed", due, () -> p.digest());
    p.advance(1);
    long e = mixed(58033, 1, 8, 2, 2, 89 + 70);
    e = mixed(e, 2, 1, 52, 2, 1, 40, 89);
    e = mixed(e, 0, 1, 10, 12, 4, 30);
    e = mixed(e, 0, 0, 27, 27, 0, 48);
    e = mixed(e, 0, 0, 3, 0, 1, 0, 0);
    long then = mixed(e, 0, 1, -1, 0, 0, 0, 0, 0);
    due(41, "with a stop that is set", then, () -> p.digest());
  }
}

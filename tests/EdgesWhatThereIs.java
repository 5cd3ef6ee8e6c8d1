/** The boundary cases of promises 1 to 5: what there is. */
public final class EdgesWhatThereIs extends Check {
  public static void main(String[] args) {
    newObject();
    newObjectDoesNothing();
    addPlaceBounds();
    addPlaceFull();
    addVehicleBounds();
    addVehicleOrder();
    addVehicleFull();
    vehicleAtItsLimits();
    addJobBounds();
    addJobOrder();
    addJobFull();
    jobAtItsLimits();
    firstHours();
    setHoursBounds();
    setHoursOfSetJob();
    setHoursAtItsLimits();
    setHoursOfOneKind();
    setHoursAnswersForAll();
    end();
  }

  // ---- 1: a planner without places, vehicles and jobs; the clock is 0

  private static void newObject() {
    DroverPlan p = new DroverPlan();
    due(1, "the clock", 0, () -> p.clock());
    due(1, "no places", 0, () -> p.places());
    due(1, "no vehicles", 0, () -> p.vehicles());
    due(1, "no jobs", 0, () -> p.jobs());
    due(1, "no cost", 0, () -> p.cost());
    due(1, "no fullness", 0.0, () -> p.fullness());
    due(1, "no way", BOUNDS, () -> p.way(0, 0));
    due(1, "no home", BOUNDS, () -> p.addVehicle(0, 1, 0, 0, 1, 0));
    due(1, "nowhere to fetch", BOUNDS, () -> p.addJob(0, 0, 1, 0, 0));
    due(1, "no vehicle", BOUNDS, () -> p.stops(0));
    due(1, "no stop", BOUNDS, () -> p.arrives(0, 0));
    due(1, "no job", BOUNDS, () -> p.vehicleOf(0));
    DroverPlan other = new DroverPlan();
    other.addPlace(1, 1);
    other.advance(9);
    due(1, "another object has its own places", 0, () -> p.places());
    due(1, "another object has its own clock", 0, () -> p.clock());
  }

  private static void newObjectDoesNothing() {
    idle(1, "nothing to put", 0, DroverPlan::new, p -> p.rebuild());
    idle(1, "nothing to take out", 0, DroverPlan::new, p -> p.ruin(9));
    idle(1, "nothing to improve", 0, DroverPlan::new, p -> p.improve(10));
    idle(1, "no job to insert", BOUNDS, DroverPlan::new, p -> p.insert(0));
    idle(1, "no job to insert there", BOUNDS, DroverPlan::new, p -> p.insertAt(0, 0, 0, 1));
    idle(1, "no job to take", BOUNDS, DroverPlan::new, p -> p.take(0));
    idle(1, "no job to set", BOUNDS, DroverPlan::new, p -> p.setHours(0, true, 0, 0));
    idle(1, "no vehicle to repair", BOUNDS, DroverPlan::new, p -> p.repair(0));
    for (int kind = 0; kind < 4; kind++) {
      int k = kind;
      idle(1, "nothing to change", 0, DroverPlan::new, p -> p.change(k));
    }
  }

  // ---- 2: x and y 0 to 60, 12 places

  private static DroverPlan twoPlaces() {
    DroverPlan p = new DroverPlan();
    p.addPlace(0, 0);
    p.addPlace(60, 60);
    return p;
  }

  private static void addPlaceBounds() {
    for (int no : outside(0, 60)) {
      idle(2, "x " + no, ARGUMENT, EdgesWhatThereIs::twoPlaces, p -> p.addPlace(no, 5));
      idle(2, "y " + no, ARGUMENT, EdgesWhatThereIs::twoPlaces, p -> p.addPlace(5, no));
      idle(2, "both " + no, ARGUMENT, EdgesWhatThereIs::twoPlaces, p -> p.addPlace(no, no));
      idle(2, "x " + no + ", 12 there", ARGUMENT, Check::fullHouse, p -> p.addPlace(no, 5));
      idle(2, "y " + no + ", 12 there", ARGUMENT, Check::fullHouse, p -> p.addPlace(5, no));
    }
    DroverPlan p = new DroverPlan();
    due(2, "x and y 0", 0, () -> p.addPlace(0, 0));
    due(2, "x and y 60", 1, () -> p.addPlace(60, 60));
    due(2, "x 0, y 60", 2, () -> p.addPlace(0, 60));
    due(2, "x 60, y 0", 3, () -> p.addPlace(60, 0));
    due(2, "the longest way", 120, () -> p.way(0, 1));
    due(2, "the longest way, other corners", 120, () -> p.way(2, 3));
    due(2, "along y", 60, () -> p.way(0, 2));
    due(2, "along x", 60, () -> p.way(0, 3));
    due(2, "where one is already", 4, () -> p.addPlace(60, 60));
    due(2, "no way between both", 0, () -> p.way(1, 4));
  }

  private static void addPlaceFull() {
    DroverPlan p = new DroverPlan();
    for (int n = 0; n < 12; n++) {
      int number = n;
      due(2, "its number", number, () -> p.addPlace(number, 2 * number));
      due(2, "one more", number + 1, () -> p.places());
    }
    idle(2, "there are 12", STATE, Check::fullHouse, q -> q.addPlace(1, 1));
    due(2, "there are 12", STATE, () -> p.addPlace(0, 0));
    due(2, "12 still", 12, () -> p.places());
    due(2, "the last one's way", 33, () -> p.way(0, 11));
    due(2, "the last one's way to the one ahead", 3, () -> p.way(11, 10));
    due(2, "the last one can be a home", 0, () -> p.addVehicle(11, 1, 0, 1440, 1, 0));
    due(2, "the last one can be fetched at", 0, () -> p.addJob(11, 10, 1, 0, 0));
    due(2, "and brought to", 6, () -> p.insert(0));
  }

  // ---- 3: home, capacity 1 to 50, from 0 to 1440, to up to 1440, price 1 to 9, fixed 0 to 200

  private static void addVehicleBounds() {
    for (int no : outside(0, 7)) {
      idle(3, "home " + no, BOUNDS, Check::onePlanned, p -> p.addVehicle(no, 5, 10, 20, 2, 3));
    }
    for (int no : outside(1, 50)) {
      idle(3, "capacity " + no, ARGUMENT, Check::onePlanned,
          p -> p.addVehicle(0, no, 10, 20, 2, 3));
    }
    for (int no : outside(0, 1440)) {
      idle(3, "from " + no, ARGUMENT, Check::onePlanned, p -> p.addVehicle(0, 5, no, 1440, 2, 3));
      idle(3, "from and to " + no, ARGUMENT, Check::onePlanned,
          p -> p.addVehicle(0, 5, no, no, 2, 3));
    }
    for (int no : outside(10, 1440)) {
      idle(3, "to " + no, ARGUMENT, Check::onePlanned, p -> p.addVehicle(0, 5, 10, no, 2, 3));
    }
    for (int no : outside(1, 9)) {
      idle(3, "price " + no, ARGUMENT, Check::onePlanned, p -> p.addVehicle(0, 5, 10, 20, no, 3));
    }
    for (int no : outside(0, 200)) {
      idle(3, "fixed " + no, ARGUMENT, Check::onePlanned, p -> p.addVehicle(0, 5, 10, 20, 2, no));
    }
  }

  /** Of several exceptions the one that is named first. */
  private static void addVehicleOrder() {
    idle(3, "home and capacity", BOUNDS, Check::oneVehicle, p -> p.addVehicle(8, 0, 0, 9, 1, 0));
    idle(3, "home and to", BOUNDS, Check::oneVehicle, p -> p.addVehicle(8, 1, 9, 8, 1, 0));
    idle(3, "home and price", BOUNDS, Check::oneVehicle, p -> p.addVehicle(-1, 1, 0, 9, 0, 0));
    idle(3, "home and fixed", BOUNDS, Check::oneVehicle, p -> p.addVehicle(-1, 1, 0, 9, 1, 201));
    idle(3, "home, 3 there", BOUNDS, Check::fullHouse, p -> p.addVehicle(12, 1, 0, 9, 1, 0));
    idle(3, "capacity, 3 there", ARGUMENT, Check::fullHouse, p -> p.addVehicle(0, 51, 0, 9, 1, 0));
    idle(3, "from, 3 there", ARGUMENT, Check::fullHouse, p -> p.addVehicle(0, 1, -1, 9, 1, 0));
    idle(3, "to, 3 there", ARGUMENT, Check::fullHouse, p -> p.addVehicle(0, 1, 0, 1441, 1, 0));
    idle(3, "price, 3 there", ARGUMENT, Check::fullHouse, p -> p.addVehicle(0, 1, 0, 9, 10, 0));
    idle(3, "fixed, 3 there", ARGUMENT, Check::fullHouse, p -> p.addVehicle(0, 1, 0, 9, 1, -1));
    idle(3, "all of them, 3 there", BOUNDS, Check::fullHouse,
        p -> p.addVehicle(-1, 0, 1441, 0, 0, 201));
  }

  private static void addVehicleFull() {
    DroverPlan p = line();
    due(3, "the first number", 0, () -> p.addVehicle(0, 1, 0, 0, 1, 0));
    due(3, "the second number", 1, () -> p.addVehicle(7, 50, 1440, 1440, 9, 200));
    due(3, "two", 2, () -> p.vehicles());
    due(3, "the third number", 2, () -> p.addVehicle(6, 5, 7, 7, 2, 3));
    due(3, "three", 3, () -> p.vehicles());
    due(3, "there are 3", STATE, () -> p.addVehicle(0, 1, 0, 0, 1, 0));
    due(3, "3 still", 3, () -> p.vehicles());
    for (int n = 0; n < 3; n++) {
      int v = n;
      due(3, "without stops", 0, () -> p.stops(v));
      due(3, "none is set", 0, () -> p.setStops(v));
      due(3, "right", true, () -> p.isRight(v));
      due(3, "no cost, though it has a price", 0, () -> p.costOf(v));
    }
    due(3, "the first one leaves at 0", 0, () -> p.back(0));
    due(3, "the second one leaves at 1440", 1440, () -> p.back(1));
    due(3, "the third one leaves at 7", 7, () -> p.back(2));
    idle(3, "there are 3", STATE, Check::fullHouse, q -> q.addVehicle(0, 5, 0, 9, 2, 3));
  }

  private static void vehicleAtItsLimits() {
    DroverPlan p = line();
    p.addVehicle(7, 1, 0, 40, 9, 200);
    p.addJob(2, 7, 2, 0, 0);
    p.addJob(1, 7, 1, 0, 0);
    due(3, "load 2 for capacity 1", -1, () -> p.insert(0));
    due(3, "capacity 1, price 9, fixed 200, back at the last minute", 560, () -> p.insert(1));
    due(3, "price times length, and fixed", 9 * 40 + 200, () -> p.costOf(0));

    DroverPlan q = line();
    q.addVehicle(0, 50, 0, 39, 1, 0);
    q.addJob(2, 0, 1, 0, 0);
    due(3, "back a minute late", -1, () -> q.insert(0));
    int[] loads = {20, 20, 10, 1};
    for (int load : loads) {
      q.addJob(1, 1, load, 0, 0);
    }
    due(3, "price 1, not fixed", 20, () -> q.insertAt(1, 0, 0, 1));
    due(3, "40 of 50", 0, () -> q.insertAt(2, 0, 1, 2));
    due(3, "50 of 50", 0, () -> q.insertAt(3, 0, 2, 3));
    due(3, "load behind the third", 50, () -> q.loadBehind(0, 2));
    due(3, "51 of 50", -1, () -> q.insertAt(4, 0, 3, 4));
    due(3, "51 of 50, all the way", -1, () -> q.insertAt(4, 0, 0, 7));
    due(3, "ahead of the others", 0, () -> q.insertAt(4, 0, 0, 1));

    DroverPlan r = line();
    r.addVehicle(0, 50, 1440, 1440, 1, 200);
    r.addJob(0, 0, 1, 1, 0);
    r.addJob(0, 0, 1, 0, 0);
    due(3, "from 1440 to 1440 there is no minute", -1, () -> r.insert(0));
    due(3, "nor is one needed", 200, () -> r.insert(1));
    due(3, "fixed without length", 200, () -> r.costOf(0));
    due(3, "no length", 0, () -> r.length(0));
  }

  // ---- 4: from, to, load 1 to 20, minutes 0 to 30, fine 0 to 999

  private static void addJobBounds() {
    for (int no : outside(0, 7)) {
      idle(4, "from " + no, BOUNDS, Check::onePlanned, p -> p.addJob(no, 0, 1, 0, 0));
      idle(4, "to " + no, BOUNDS, Check::onePlanned, p -> p.addJob(0, no, 1, 0, 0));
    }
    for (int no : outside(1, 20)) {
      idle(4, "load " + no, ARGUMENT, Check::onePlanned, p -> p.addJob(0, 0, no, 0, 0));
    }
    for (int no : outside(0, 30)) {
      idle(4, "minutes " + no, ARGUMENT, Check::onePlanned, p -> p.addJob(0, 0, 1, no, 0));
    }
    for (int no : outside(0, 999)) {
      idle(4, "fine " + no, ARGUMENT, Check::onePlanned, p -> p.addJob(0, 0, 1, 0, no));
    }
  }

  private static void addJobOrder() {
    idle(4, "from and load", BOUNDS, Check::oneVehicle, p -> p.addJob(8, 0, 0, 0, 0));
    idle(4, "to and minutes", BOUNDS, Check::oneVehicle, p -> p.addJob(0, 8, 1, 31, 0));
    idle(4, "to and fine", BOUNDS, Check::oneVehicle, p -> p.addJob(0, -1, 1, 0, 1000));
    idle(4, "from, 9 there", BOUNDS, Check::fullHouse, p -> p.addJob(12, 0, 1, 0, 0));
    idle(4, "to, 9 there", BOUNDS, Check::fullHouse, p -> p.addJob(0, 12, 1, 0, 0));
    idle(4, "load, 9 there", ARGUMENT, Check::fullHouse, p -> p.addJob(0, 0, 21, 0, 0));
    idle(4, "minutes, 9 there", ARGUMENT, Check::fullHouse, p -> p.addJob(0, 0, 1, -1, 0));
    idle(4, "fine, 9 there", ARGUMENT, Check::fullHouse, p -> p.addJob(0, 0, 1, 0, -1));
    idle(4, "all of them, 9 there", BOUNDS, Check::fullHouse, p -> p.addJob(-1, 99, 0, 31, -1));
  }

  private static void addJobFull() {
    DroverPlan p = line();
    for (int n = 0; n < 9; n++) {
      int number = n;
      due(4, "its number", number, () -> p.addJob(number % 8, 7 - number % 8, 1, 0, 1));
      due(4, "one more", number + 1, () -> p.jobs());
      due(4, "it is open", -1, () -> p.vehicleOf(number));
      due(4, "it is not set", false, () -> p.isSet(number));
      due(4, "the fines of all that are open", number + 1, () -> p.cost());
    }
    due(4, "there are 9", STATE, () -> p.addJob(0, 0, 1, 0, 1));
    due(4, "9 still", 9, () -> p.jobs());
    idle(4, "there are 9", STATE, Check::fullHouse, q -> q.addJob(0, 0, 1, 0, 1));
  }

  private static void jobAtItsLimits() {
    DroverPlan p = line();
    p.addVehicle(0, 20, 0, 1440, 1, 0);
    due(4, "the least of all, from a place to the same one", 0, () -> p.addJob(2, 2, 1, 0, 0));
    due(4, "fine 0", 0, () -> p.cost());
    due(4, "the most of all", 1, () -> p.addJob(1, 7, 20, 30, 999));
    due(4, "fine 999", 999, () -> p.cost());
    due(4, "there and back", 40, () -> p.insert(0));
    due(4, "no minutes to fetch", 20, () -> p.arrives(0, 1));
    due(4, "no minutes to bring", 40, () -> p.back(0));
    p.take(0);
    due(4, "load 20, capacity 20", 40, () -> p.insert(1));
    due(4, "its load", 20, () -> p.loadBehind(0, 0));
    due(4, "30 minutes to fetch", 10 + 30 + 20, () -> p.arrives(0, 1));
    due(4, "30 minutes to bring", 60 + 30 + 10, () -> p.back(0));
  }

  /** The hours are 0 to 1440 for fetching and for bringing. */
  private static void firstHours() {
    DroverPlan p = line();
    p.addVehicle(0, 10, 0, 1440, 1, 0);
    p.addVehicle(0, 10, 1440, 1440, 1, 0);
    p.addJob(0, 0, 1, 0, 0);
    p.addJob(0, 0, 1, 0, 0);
    due(4, "from minute 0 on", 0, () -> p.insertAt(0, 0, 0, 1));
    due(4, "it is fetched at 0", 0, () -> p.begins(0, 0));
    due(4, "it is brought at 0", 0, () -> p.begins(0, 1));
    due(4, "no wait", 0, () -> p.waits(0));
    due(4, "up to minute 1440", 0, () -> p.insertAt(1, 1, 0, 1));
    due(4, "it is fetched at 1440", 1440, () -> p.begins(1, 0));
    due(4, "it is brought at 1440", 1440, () -> p.begins(1, 1));
    due(4, "right at 1440", true, () -> p.isRight(1));
    due(4, "as late as at 1440, fetching", 1440, () -> p.slack(0, 0));
    due(4, "as late as at 1440, bringing", 1440, () -> p.slack(0, 1));
  }

  // ---- 5: from 0 to 1440, to up to 1440, not of a job that is set

  private static void setHoursBounds() {
    for (boolean isFetched : new boolean[] {true, false}) {
      for (int no : outside(0, 0)) {
        idle(5, "job " + no, BOUNDS, Check::onePlanned, p -> p.setHours(no, isFetched, 0, 9));
        idle(5, "job " + no + ", wrong hours", BOUNDS, Check::onePlanned,
            p -> p.setHours(no, isFetched, 9, 8));
      }
      for (int no : outside(0, 1440)) {
        idle(5, "from " + no, ARGUMENT, Check::onePlanned,
            p -> p.setHours(0, isFetched, no, 1440));
        idle(5, "from and to " + no, ARGUMENT, Check::onePlanned,
            p -> p.setHours(0, isFetched, no, no));
        idle(5, "from " + no + " of a set job", ARGUMENT, Check::oneSet,
            p -> p.setHours(0, isFetched, no, 1440));
      }
      for (int no : outside(7, 1440)) {
        idle(5, "to " + no, ARGUMENT, Check::onePlanned, p -> p.setHours(0, isFetched, 7, no));
        idle(5, "to " + no + " of an open job", ARGUMENT, Check::oneOpen,
            p -> p.setHours(0, isFetched, 7, no));
        idle(5, "to " + no + " of a set job", ARGUMENT, Check::oneSet,
            p -> p.setHours(0, isFetched, 7, no));
      }
    }
  }

  private static void setHoursOfSetJob() {
    for (boolean isFetched : new boolean[] {true, false}) {
      idle(5, "one stop of it is set", STATE, Check::oneSet, p -> p.setHours(0, isFetched, 0, 9));
      idle(5, "the hours it has", STATE, Check::oneSet, p -> p.setHours(0, isFetched, 0, 1440));
      idle(5, "both stops of it are set", STATE, () -> {
        DroverPlan p = onePlanned();
        p.advance(1440);
        return p;
      }, p -> p.setHours(0, isFetched, 0, 9));
    }
    DroverPlan p = oneSet();
    p.addJob(3, 3, 1, 0, 50);
    due(5, "an open job", true, () -> p.setHours(1, true, 0, 100));
    p.insertAt(1, 0, 1, 2);
    due(5, "a job that is not set, in a route with a set stop", true,
        () -> p.setHours(1, true, 35, 35));
    due(5, "a minute early", false, () -> p.setHours(1, true, 34, 34));
    due(5, "setting hours sets no stop", 1, () -> p.setStops(0));
  }

  private static void setHoursAtItsLimits() {
    DroverPlan p = oneOpen();
    due(5, "from and to 0, of an open job", true, () -> p.setHours(0, true, 0, 0));
    due(5, "it is not there at 0", -1, () -> p.insert(0));
    due(5, "from and to 1440", true, () -> p.setHours(0, true, 1440, 1440));
    due(5, "it is not back in time", -1, () -> p.insert(0));
    due(5, "from 0 to 1440", true, () -> p.setHours(0, true, 0, 1440));
    due(5, "from and to 0 for bringing", true, () -> p.setHours(0, false, 0, 0));
    due(5, "it is not there at 0 to bring", -1, () -> p.insert(0));
    due(5, "the first minute is the last one", true, () -> p.setHours(0, false, 25, 25));
    due(5, "the first minute is the last one, fetching", true, () -> p.setHours(0, true, 10, 10));
    due(5, "just then", 40, () -> p.insert(0));
    due(5, "a minute less", false, () -> p.setHours(0, true, 9, 9));
    due(5, "the route stays, not right", "+0-0", () -> row(p, 0));
    due(5, "not right", false, () -> p.isRight(0));
    due(5, "a minute more, so it brings a minute late", false, () -> p.setHours(0, true, 11, 11));
    due(5, "it begins as the hours do", 11, () -> p.begins(0, 0));
    due(5, "also a minute more for bringing", true, () -> p.setHours(0, false, 0, 26));
    due(5, "the whole day for a planned job", true, () -> p.setHours(0, false, 0, 1440));
    due(5, "to 1440", true, () -> p.setHours(0, false, 1415, 1440));
    due(5, "back at 1440", 1440, () -> p.back(0));
    due(5, "back at 1441", false, () -> p.setHours(0, false, 1416, 1440));
  }

  /** Those for fetching and those for bringing are told apart. */
  private static void setHoursOfOneKind() {
    DroverPlan p = onePlanned();
    p.setHours(0, true, 12, 40);
    due(5, "fetching from 12 on", 12, () -> p.begins(0, 0));
    due(5, "not so for bringing", 27, () -> p.begins(0, 1));
    p.setHours(0, false, 40, 50);
    due(5, "bringing from 40 on", 40, () -> p.begins(0, 1));
    due(5, "fetching as before", 12, () -> p.begins(0, 0));
    due(5, "up to 40 for fetching, up to 50 for bringing", 23, () -> p.slack(0, 1));
    due(5, "up to 30 for fetching", 20, () -> {
      p.setHours(0, true, 0, 30);
      return p.slack(0, 0);
    });
    p.addJob(3, 3, 1, 0, 9);
    p.setHours(1, true, 100, 110);
    due(5, "another job's are its own", 10, () -> p.begins(0, 0));
  }

  /** It returns whether all routes are right then, not only the job's. */
  private static void setHoursAnswersForAll() {
    DroverPlan none = line();
    none.addJob(0, 1, 1, 0, 0);
    due(5, "without vehicles", true, () -> none.setHours(0, true, 3, 4));
    DroverPlan p = line();
    for (int n = 0; n < 3; n++) {
      p.addVehicle(0, 10, 0, 1440, 1, 0);
      p.addJob(1, 1, 1, 0, 0);
      p.insertAt(n, n, 0, 1);
    }
    due(5, "all three are right", true, () -> p.setHours(0, true, 0, 10));
    due(5, "the last one is not", false, () -> p.setHours(2, false, 0, 9));
    due(5, "so it is for another job", false, () -> p.setHours(1, true, 0, 1440));
    due(5, "right again", true, () -> p.setHours(2, false, 0, 10));
    due(5, "the first one is not", false, () -> p.setHours(0, true, 0, 9));
    due(5, "so it is for the last job", false, () -> p.setHours(2, true, 0, 1440));
    due(5, "the others are right", true, () -> p.isRight(1) && p.isRight(2));
  }
}

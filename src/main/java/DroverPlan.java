/**
 * A planner for vehicles that fetch and bring.
 *
 * <p>A stop is held as one number: twice its job's where that is fetched, one more where it is
 * brought. All rows are made with the object, and no call makes new ones.
 */
public final class DroverPlan {
  private static final int MOST_PLACES = 12;
  private static final int MOST_VEHICLES = 3;
  private static final int MOST_JOBS = 9;
  private static final int MOST_STOPS = 2 * MOST_JOBS;
  private static final int MOST_CHANGES = 10;
  private static final int FARTHEST = 60;
  private static final int LAST_MINUTE = 1440;
  private static final int KINDS = 4;
  private static final int NONE = -1;
  private static final int NO_LIMIT = 1000000;
  private static final int REGRET_OF_ONE = 9999;
  private static final long FIRST_DIGEST = 58033L;

  private final Facts facts;
  private final Vehicle[] fleet;
  private final Trip trip;
  private final Row shortened;
  private final Insertion found;
  private final Insertion best;
  private final Insertion chosen;
  private int fleetSize;
  private int bestGain;

  public DroverPlan() {
    facts = new Facts();
    fleet = new Vehicle[MOST_VEHICLES];
    for (int v = 0; v < fleet.length; v++) {
      fleet[v] = new Vehicle();
    }
    trip = new Trip();
    shortened = new Row();
    found = new Insertion();
    best = new Insertion();
    chosen = new Insertion();
  }

  // ---- what there is

  public int addPlace(int x, int y) throws IllegalArgumentException, IllegalStateException {
    if (isOutside(x, 0, FARTHEST) || isOutside(y, 0, FARTHEST)) {
      throw new IllegalArgumentException("x and y are 0 to 60");
    }
    if (facts.placeCount >= MOST_PLACES) {
      throw new IllegalStateException("there are 12 places");
    }
    return facts.tellPlace(x, y);
  }

  public int addVehicle(int home, int capacity, int from, int to, int price, int fixed)
      throws IndexOutOfBoundsException, IllegalArgumentException, IllegalStateException {
    checkPlace(home);
    if (isOutside(capacity, 1, 50)) {
      throw new IllegalArgumentException("capacity is 1 to 50");
    }
    checkHours(from, to);
    if (isOutside(price, 1, 9) || isOutside(fixed, 0, 200)) {
      throw new IllegalArgumentException("price is 1 to 9, fixed 0 to 200");
    }
    if (fleetSize >= fleet.length) {
      throw new IllegalStateException("there are 3 vehicles");
    }
    Vehicle v = fleet[fleetSize];
    v.home = home;
    v.capacity = capacity;
    v.leaves = from;
    v.due = to;
    v.price = price;
    v.fixed = fixed;
    fleetSize++;
    return fleetSize - 1;
  }

  public int addJob(int from, int to, int load, int minutes, int fine)
      throws IndexOutOfBoundsException, IllegalArgumentException, IllegalStateException {
    checkPlace(from);
    checkPlace(to);
    if (isOutside(load, 1, 20) || isOutside(minutes, 0, 30) || isOutside(fine, 0, 999)) {
      throw new IllegalArgumentException("load is 1 to 20, minutes 0 to 30, fine 0 to 999");
    }
    if (facts.jobCount >= MOST_JOBS) {
      throw new IllegalStateException("there are 9 jobs");
    }
    return facts.tellJob(from, to, load, minutes, fine);
  }

  public boolean setHours(int job, boolean isFetched, int from, int to)
      throws IndexOutOfBoundsException, IllegalArgumentException, IllegalStateException {
    checkJob(job);
    checkHours(from, to);
    if (isBound(job)) {
      throw new IllegalStateException("the job is set");
    }
    facts.tellHours(isFetched ? fetchOf(job) : bringOf(job), from, to);
    return areAllRight();
  }

  // ---- changes

  public int insert(int job) throws IndexOutOfBoundsException, IllegalStateException {
    checkJob(job);
    checkOpen(job);
    searchAllVehicles(job);
    put(best);
    return best.adds;
  }

  public int insertAt(int job, int vehicle, int i, int k)
      throws IndexOutOfBoundsException, IllegalArgumentException, IllegalStateException {
    checkJob(job);
    checkVehicle(vehicle);
    Vehicle v = fleet[vehicle];
    if (i < 0 || k <= i || k > v.row.many + 1) {
      throw new IllegalArgumentException("0 <= i < k <= n + 1");
    }
    checkOpen(job);
    v.tried.becomeWith(v.row, job, i, k);
    trip.ride(facts, v, v.tried);
    if (i < v.set || !trip.isAllowed(v)) {
      return NONE;
    }
    int adds = addsAt(v, v.row, job, i, k);
    v.row.become(v.tried);
    return adds;
  }

  public int take(int job) throws IndexOutOfBoundsException, IllegalStateException {
    checkJob(job);
    if (carrierOf(job) == NONE || isBound(job)) {
      throw new IllegalStateException("the job is open, or set");
    }
    int saved = savedWithout(job);
    takeOut(job);
    return saved;
  }

  public int rebuild() {
    int count = 0;
    while (count < MOST_JOBS && chooseByRegret()) {
      put(chosen);
      count++;
    }
    return count;
  }

  public int ruin(int many) throws IllegalArgumentException {
    if (isOutside(many, 1, MOST_JOBS)) {
      throw new IllegalArgumentException("many is 1 to 9");
    }
    int count = 0;
    int job = dearestJob();
    while (count < many && job != NONE) {
      takeOut(job);
      count++;
      job = dearestJob();
    }
    return count;
  }

  public int change(int kind) throws IllegalArgumentException {
    checkKind(kind);
    startSearch();
    searchKind(kind);
    makeBestChange();
    return bestGain;
  }

  public int improve(int most) throws IllegalArgumentException {
    if (isOutside(most, 1, MOST_CHANGES)) {
      throw new IllegalArgumentException("most is 1 to 10");
    }
    int sum = 0;
    for (int n = 0; n < most; n++) {
      startSearch();
      // The gain found so far must be passed, so of several kinds the smallest one stays.
      for (int kind = 0; kind < KINDS; kind++) {
        searchKind(kind);
      }
      if (bestGain == 0) {
        break;
      }
      makeBestChange();
      sum += bestGain;
    }
    return sum;
  }

  public int repair(int vehicle) throws IndexOutOfBoundsException {
    checkVehicle(vehicle);
    Vehicle v = fleet[vehicle];
    int count = 0;
    while (count < MOST_JOBS && !trip.isRideRight(facts, v, v.row)) {
      int job = jobToRepair(v);
      if (job == NONE) {
        break;
      }
      takeOut(job);
      count++;
    }
    return count;
  }

  public int advance(int minutes) throws IllegalArgumentException, IllegalStateException {
    if (isOutside(minutes, 1, LAST_MINUTE)) {
      throw new IllegalArgumentException("minutes is 1 to 1440");
    }
    if (facts.clock + minutes > LAST_MINUTE || !areAllRight()) {
      throw new IllegalStateException("the day ends, or a route is not right");
    }
    facts.clock += minutes;
    int count = 0;
    for (int n = 0; n < fleetSize; n++) {
      Vehicle v = fleet[n];
      trip.ride(facts, v, v.row);
      count += trip.set - v.set;
      v.set = trip.set;
    }
    return count;
  }

  // ---- asking

  public int clock() {
    return facts.clock;
  }

  public int places() {
    return facts.placeCount;
  }

  public int vehicles() {
    return fleetSize;
  }

  public int jobs() {
    return facts.jobCount;
  }

  public int way(int from, int to) throws IndexOutOfBoundsException {
    checkPlace(from);
    checkPlace(to);
    return facts.wayBetween(from, to);
  }

  public int vehicleOf(int job) throws IndexOutOfBoundsException {
    checkJob(job);
    return carrierOf(job);
  }

  public boolean isSet(int job) throws IndexOutOfBoundsException {
    checkJob(job);
    return isBound(job);
  }

  public int stops(int vehicle) throws IndexOutOfBoundsException {
    checkVehicle(vehicle);
    return fleet[vehicle].row.many;
  }

  public int setStops(int vehicle) throws IndexOutOfBoundsException {
    checkVehicle(vehicle);
    return fleet[vehicle].set;
  }

  public int jobAt(int vehicle, int stop) throws IndexOutOfBoundsException {
    checkStop(vehicle, stop);
    return jobOf(fleet[vehicle].row.at(stop));
  }

  public boolean isFetched(int vehicle, int stop) throws IndexOutOfBoundsException {
    checkStop(vehicle, stop);
    return isFetch(fleet[vehicle].row.at(stop));
  }

  public int arrives(int vehicle, int stop) throws IndexOutOfBoundsException {
    checkStop(vehicle, stop);
    rideTo(fleet[vehicle], stop);
    return trip.arrive;
  }

  public int begins(int vehicle, int stop) throws IndexOutOfBoundsException {
    checkStop(vehicle, stop);
    rideTo(fleet[vehicle], stop);
    return trip.begin;
  }

  public int loadBehind(int vehicle, int stop) throws IndexOutOfBoundsException {
    checkStop(vehicle, stop);
    rideTo(fleet[vehicle], stop);
    return trip.load;
  }

  public int slack(int vehicle, int stop) throws IndexOutOfBoundsException {
    checkStop(vehicle, stop);
    rideTo(fleet[vehicle], stop);
    return slackBehind(fleet[vehicle], stop, trip.arrive);
  }

  public int back(int vehicle) throws IndexOutOfBoundsException {
    checkVehicle(vehicle);
    rideWhole(fleet[vehicle]);
    return trip.arrive;
  }

  public int waits(int vehicle) throws IndexOutOfBoundsException {
    checkVehicle(vehicle);
    rideWhole(fleet[vehicle]);
    return trip.waited;
  }

  public boolean isRight(int vehicle) throws IndexOutOfBoundsException {
    checkVehicle(vehicle);
    rideWhole(fleet[vehicle]);
    return trip.right;
  }

  public int length(int vehicle) throws IndexOutOfBoundsException {
    checkVehicle(vehicle);
    rideWhole(fleet[vehicle]);
    return trip.distance;
  }

  public int costOf(int vehicle) throws IndexOutOfBoundsException {
    checkVehicle(vehicle);
    return trip.ride(facts, fleet[vehicle], fleet[vehicle].row);
  }

  public int cost() {
    return costOfAll();
  }

  public double fullness() {
    int carried = 0;
    int room = 0;
    for (int n = 0; n < fleetSize; n++) {
      Vehicle v = fleet[n];
      rideWhole(v);
      carried += trip.carried;
      room += trip.distance * v.capacity;
    }
    return room == 0 ? 0.0 : (double) carried / (double) room;
  }

  // ---- what would be (nothing is changed)

  public int wouldAdd(int job, int vehicle)
      throws IndexOutOfBoundsException, IllegalStateException {
    checkJob(job);
    checkVehicle(vehicle);
    checkOpen(job);
    Vehicle v = fleet[vehicle];
    searchInsertion(job, v, v.row, NO_LIMIT);
    return found.adds;
  }

  public int gain(int kind) throws IllegalArgumentException {
    checkKind(kind);
    startSearch();
    searchKind(kind);
    return bestGain;
  }

  public int laterBack(int vehicle, int stop, int minutes)
      throws IndexOutOfBoundsException, IllegalArgumentException {
    checkStop(vehicle, stop);
    if (isOutside(minutes, 0, LAST_MINUTE)) {
      throw new IllegalArgumentException("minutes is 0 to 1440");
    }
    Vehicle v = fleet[vehicle];
    rideWhole(v);
    int planned = trip.arrive;
    trip.rideDelayed(facts, v, v.row, stop, minutes);
    return trip.arrive - planned;
  }

  public int costWithout(int job) throws IndexOutOfBoundsException {
    checkJob(job);
    int less = carrierOf(job) == NONE ? facts.fine[job] : savedWithout(job);
    return costOfAll() - less;
  }

  public long digest() {
    long d = FIRST_DIGEST;
    d = d * 31 + facts.clock;
    d = d * 31 + facts.placeCount;
    d = d * 31 + fleetSize;
    d = d * 31 + facts.jobCount;
    d = d * 31 + costOfAll();
    for (int n = 0; n < fleetSize; n++) {
      d = digestOfVehicle(d, fleet[n]);
    }
    for (int job = 0; job < facts.jobCount; job++) {
      d = d * 31 + carrierOf(job);
      d = d * 31 + (isBound(job) ? 1 : 0);
    }
    for (int kind = 0; kind < KINDS; kind++) {
      startSearch();
      searchKind(kind);
      d = d * 31 + bestGain;
    }
    return d;
  }

  private long digestOfVehicle(long start, Vehicle v) {
    int price = trip.ride(facts, v, v.row);
    long d = start;
    d = d * 31 + v.row.many;
    d = d * 31 + v.set;
    d = d * 31 + trip.arrive;
    d = d * 31 + trip.waited;
    d = d * 31 + (trip.right ? 1 : 0);
    d = d * 31 + trip.distance;
    d = d * 31 + price;
    trip.start(v);
    for (int s = 0; s < v.row.many; s++) {
      int stop = v.row.at(s);
      trip.visit(facts, v, stop);
      d = d * 31 + jobOf(stop);
      d = d * 31 + (isFetch(stop) ? 1 : 0);
      d = d * 31 + trip.arrive;
      d = d * 31 + trip.begin;
      d = d * 31 + trip.load;
      d = d * 31 + slackBehind(v, s, trip.arrive);
    }
    return d;
  }

  // ---- what the calls ask for ahead

  private static boolean isOutside(int number, int least, int most) {
    return number < least || number > most;
  }

  private static void checkHours(int from, int to) {
    if (isOutside(from, 0, LAST_MINUTE) || isOutside(to, from, LAST_MINUTE)) {
      throw new IllegalArgumentException("from is 0 to 1440, to is from to 1440");
    }
  }

  private static void checkKind(int kind) {
    if (isOutside(kind, 0, KINDS - 1)) {
      throw new IllegalArgumentException("kind is 0 to 3");
    }
  }

  private void checkPlace(int place) {
    if (!facts.isPlace(place)) {
      throw new IndexOutOfBoundsException("no such place");
    }
  }

  private void checkVehicle(int vehicle) {
    if (vehicle < 0 || vehicle >= fleetSize) {
      throw new IndexOutOfBoundsException("no such vehicle");
    }
  }

  private void checkStop(int vehicle, int stop) {
    checkVehicle(vehicle);
    if (stop < 0 || stop >= fleet[vehicle].row.many) {
      throw new IndexOutOfBoundsException("no such stop");
    }
  }

  private void checkJob(int job) {
    if (job < 0 || job >= facts.jobCount) {
      throw new IndexOutOfBoundsException("no such job");
    }
  }

  private void checkOpen(int job) {
    if (carrierOf(job) != NONE) {
      throw new IllegalStateException("the job is planned");
    }
  }

  // ---- stops, jobs and who carries them

  private static int fetchOf(int job) {
    return 2 * job;
  }

  private static int bringOf(int job) {
    return 2 * job + 1;
  }

  private static int jobOf(int stop) {
    return stop >> 1;
  }

  private static boolean isFetch(int stop) {
    return (stop & 1) == 0;
  }

  private int carrierOf(int job) {
    for (int n = 0; n < fleetSize; n++) {
      if (fleet[n].row.find(fetchOf(job)) != NONE) {
        return n;
      }
    }
    return NONE;
  }

  /** A job is fetched ahead of being brought, so it is set with the stop at which it is fetched. */
  private boolean isBound(int job) {
    for (int n = 0; n < fleetSize; n++) {
      int stop = fleet[n].row.find(fetchOf(job));
      if (stop != NONE) {
        return stop < fleet[n].set;
      }
    }
    return false;
  }

  private boolean isMovable(int job) {
    return carrierOf(job) != NONE && !isBound(job);
  }

  private void takeOut(int job) {
    for (int n = 0; n < fleetSize; n++) {
      Vehicle v = fleet[n];
      if (v.row.find(fetchOf(job)) != NONE) {
        v.tried.becomeWithout(v.row, job);
        v.row.become(v.tried);
      }
    }
  }

  // ---- rides, and what they cost

  private void rideWhole(Vehicle v) {
    trip.ride(facts, v, v.row);
  }

  private void rideTo(Vehicle v, int stop) {
    trip.start(v);
    for (int s = 0; s <= stop; s++) {
      trip.visit(facts, v, v.row.at(s));
    }
  }

  private boolean areAllRight() {
    for (int n = 0; n < fleetSize; n++) {
      if (!trip.isRideRight(facts, fleet[n], fleet[n].row)) {
        return false;
      }
    }
    return true;
  }

  private int costOfAll() {
    int sum = 0;
    for (int n = 0; n < fleetSize; n++) {
      sum += trip.ride(facts, fleet[n], fleet[n].row);
    }
    for (int job = 0; job < facts.jobCount; job++) {
      if (carrierOf(job) == NONE) {
        sum += facts.fine[job];
      }
    }
    return sum;
  }

  /** By how much the route of a job costs less without it; 0 if it is in none. */
  private int savedWithout(int job) {
    for (int n = 0; n < fleetSize; n++) {
      Vehicle v = fleet[n];
      if (v.row.find(fetchOf(job)) != NONE) {
        shortened.becomeWithout(v.row, job);
        return trip.ride(facts, v, v.row) - trip.ride(facts, v, shortened);
      }
    }
    return 0;
  }

  /** From home back to the stop: the latest minute to arrive at each that is still in time. */
  private int slackBehind(Vehicle v, int stop, int arrive) {
    int latest = v.due;
    int next = v.home;
    for (int s = v.row.many - 1; s >= stop; s--) {
      int code = v.row.at(s);
      if (!facts.isStop(code)) {
        return NONE;
      }
      int leave = latest - facts.wayBetween(facts.place[code], next);
      latest = Math.min(facts.closes[code], leave - facts.minutes[code]);
      // However early it arrives, it does not begin ahead of the hours.
      if (latest < facts.opens[code]) {
        return NONE;
      }
      next = facts.place[code];
    }
    return latest < arrive ? NONE : latest - arrive;
  }

  // ---- insertions

  private int detour(int from, int over, int to) {
    return facts.wayBetween(from, over) + facts.wayBetween(over, to) - facts.wayBetween(from, to);
  }

  /** The place at a stop of a row; the home for those ahead of the first and behind the last. */
  private int placeAt(Vehicle v, Row row, int s) {
    int stop = row.at(s);
    return facts.isStop(stop) ? facts.place[stop] : v.home;
  }

  /** What the insertion adds, without a look at whether it is allowed. */
  private int addsAt(Vehicle v, Row row, int job, int i, int k) {
    int fetch = fetchOf(job);
    int bring = bringOf(job);
    if (!facts.isStop(bring)) {
      return 0;
    }
    int from = facts.place[fetch];
    int to = facts.place[bring];
    int ahead = placeAt(v, row, i - 1);
    int behind = placeAt(v, row, i);
    int more;
    if (k == i + 1) {
      more = detour(ahead, from, behind) + detour(from, to, behind);
    } else {
      more = detour(ahead, from, behind)
          + detour(placeAt(v, row, k - 2), to, placeAt(v, row, k - 1));
    }
    return v.price * more + (row.many == 0 ? v.fixed : 0);
  }

  /** The best insertion into a row of a vehicle that adds less than the limit, into found. */
  private void searchInsertion(int job, Vehicle v, Row row, int limit) {
    found.adds = NONE;
    int least = limit;
    for (int i = v.set; i <= row.many; i++) {
      for (int k = i + 1; k <= row.many + 1; k++) {
        int adds = addsAt(v, row, job, i, k);
        if (adds >= least) {
          continue;
        }
        v.tried.becomeWith(row, job, i, k);
        if (trip.isRideRight(facts, v, v.tried) && trip.isAllowed(v)) {
          least = adds;
          found.adds = adds;
          found.i = i;
          found.k = k;
        }
      }
    }
  }

  /** The best insertion of a job of all vehicles, and its regret, into best. */
  private void searchAllVehicles(int job) {
    int least = NO_LIMIT;
    int second = NO_LIMIT;
    best.job = job;
    best.adds = NONE;
    best.vehicle = NONE;
    for (int n = 0; n < fleetSize; n++) {
      searchInsertion(job, fleet[n], fleet[n].row, NO_LIMIT);
      if (found.adds == NONE) {
        continue;
      }
      if (found.adds < least) {
        second = least;
        least = found.adds;
        best.vehicle = n;
        best.adds = found.adds;
        best.i = found.i;
        best.k = found.k;
      } else if (found.adds < second) {
        second = found.adds;
      }
    }
    best.regret = second == NO_LIMIT ? REGRET_OF_ONE : second - least;
  }

  /** Does nothing for one that was not found. */
  private void put(Insertion one) {
    if (one.vehicle < 0 || one.vehicle >= fleetSize) {
      return;
    }
    Vehicle v = fleet[one.vehicle];
    v.tried.becomeWith(v.row, one.job, one.i, one.k);
    v.row.become(v.tried);
  }

  /** Answers whether there is an open job worth putting; its insertion is in chosen then. */
  private boolean chooseByRegret() {
    boolean any = false;
    for (int job = 0; job < facts.jobCount; job++) {
      if (carrierOf(job) != NONE) {
        continue;
      }
      searchAllVehicles(job);
      boolean isWorth = best.adds != NONE && best.adds < facts.fine[job];
      if (isWorth && (!any || best.comesBefore(chosen))) {
        chosen.become(best);
        any = true;
      }
    }
    return any;
  }

  // ---- jobs to take out

  /** The job whose taking out saves most; NONE if none can be taken out. */
  private int dearestJob() {
    int dearest = NONE;
    int most = 0;
    for (int job = 0; job < facts.jobCount; job++) {
      if (!isMovable(job)) {
        continue;
      }
      int saved = savedWithout(job);
      if (dearest == NONE || saved > most) {
        dearest = job;
        most = saved;
      }
    }
    return dearest;
  }

  /** The job that repair takes out next; NONE if all that are left are set. */
  private int jobToRepair(Vehicle v) {
    int last = NONE;
    int cheapest = NONE;
    int least = 0;
    for (int job = 0; job < facts.jobCount; job++) {
      if (v.row.find(fetchOf(job)) < v.set) {
        continue;
      }
      last = job;
      shortened.becomeWithout(v.row, job);
      int price = trip.ride(facts, v, shortened);
      if (trip.right && (cheapest == NONE || price < least)) {
        cheapest = job;
        least = price;
      }
    }
    return cheapest == NONE ? last : cheapest;
  }

  // ---- the four kinds of changes

  private void startSearch() {
    bestGain = 0;
    for (int n = 0; n < fleetSize; n++) {
      Vehicle v = fleet[n];
      v.after.become(v.row);
      v.before = trip.ride(facts, v, v.row);
    }
  }

  /** Keeps the best change of the kind, if its gain is above that of the one kept so far. */
  private void searchKind(int kind) {
    switch (kind) {
      case 0:
        searchMoves();
        break;
      case 1:
        searchSwaps();
        break;
      case 2:
        searchTurns();
        break;
      default:
        searchEnds();
        break;
    }
  }

  private void makeBestChange() {
    for (int n = 0; n < fleetSize; n++) {
      fleet[n].row.become(fleet[n].after);
    }
  }

  /** Keeps the rows tried for one vehicle or two (first and second can be the same). */
  private void keep(int gained, Vehicle first, Vehicle second) {
    bestGain = gained;
    for (int n = 0; n < fleetSize; n++) {
      Vehicle v = fleet[n];
      v.after.become(v == first || v == second ? v.tried : v.row);
    }
  }

  /** Keeps the rows tried, if they are allowed and gain more than those kept so far. */
  private void offer(Vehicle first, Vehicle second) {
    int gained = first.before - trip.ride(facts, first, first.tried);
    if (!trip.isAllowed(first)) {
      return;
    }
    if (second != first) {
      gained += second.before - trip.ride(facts, second, second.tried);
      if (!trip.isAllowed(second)) {
        return;
      }
    }
    if (gained > bestGain) {
      keep(gained, first, second);
    }
  }

  private void searchMoves() {
    for (int job = 0; job < facts.jobCount; job++) {
      int carrier = carrierOf(job);
      if (carrier < 0 || carrier >= fleetSize || isBound(job)) {
        continue;
      }
      Vehicle from = fleet[carrier];
      shortened.becomeWithout(from.row, job);
      int saved = from.before - trip.ride(facts, from, shortened);
      boolean canLeave = trip.isAllowed(from);
      for (int n = 0; n < fleetSize; n++) {
        Vehicle v = fleet[n];
        if (v != from && !canLeave) {
          continue;
        }
        Row row = v == from ? shortened : v.row;
        searchInsertion(job, v, row, saved - bestGain);
        if (found.adds != NONE) {
          from.tried.become(shortened);
          v.tried.becomeWith(row, job, found.i, found.k);
          keep(saved - found.adds, from, v);
        }
      }
    }
  }

  private void searchSwaps() {
    for (int one = 0; one < facts.jobCount; one++) {
      for (int other = one + 1; other < facts.jobCount; other++) {
        int a = carrierOf(one);
        int b = carrierOf(other);
        if (a < 0 || a >= fleetSize || b < 0 || b >= fleetSize) {
          continue;
        }
        if (isBound(one) || isBound(other)) {
          continue;
        }
        fleet[a].tried.becomeSwapped(fleet[a].row, one, other);
        fleet[b].tried.becomeSwapped(fleet[b].row, one, other);
        offer(fleet[a], fleet[b]);
      }
    }
  }

  private void searchTurns() {
    for (int n = 0; n < fleetSize; n++) {
      Vehicle v = fleet[n];
      for (int i = v.set; i < v.row.many; i++) {
        for (int k = i + 1; k < v.row.many; k++) {
          if (!v.row.holdsPair(i, k)) {
            v.tried.becomeTurned(v.row, i, k);
            offer(v, v);
          }
        }
      }
    }
  }

  private void searchEnds() {
    for (int a = 0; a < fleetSize; a++) {
      for (int b = a + 1; b < fleetSize; b++) {
        Vehicle first = fleet[a];
        Vehicle second = fleet[b];
        for (int i = first.set; i <= first.row.many; i++) {
          for (int k = second.set; k <= second.row.many; k++) {
            if (!first.row.splitsJob(i) && !second.row.splitsJob(k)) {
              first.tried.becomeJoined(first.row, i, second.row, k);
              second.tried.becomeJoined(second.row, k, first.row, i);
              offer(first, second);
            }
          }
        }
      }
    }
  }

  /** What is told of places and jobs, and the clock. */
  private static final class Facts {
    final int[] x;
    final int[] y;
    final int[] ways;
    final int[] fine;
    final int[] place;
    final int[] opens;
    final int[] closes;
    final int[] minutes;
    final int[] weight;
    int placeCount;
    int jobCount;
    int clock;

    Facts() {
      x = new int[MOST_PLACES];
      y = new int[MOST_PLACES];
      ways = new int[MOST_PLACES * MOST_PLACES];
      fine = new int[MOST_JOBS];
      place = new int[MOST_STOPS];
      opens = new int[MOST_STOPS];
      closes = new int[MOST_STOPS];
      minutes = new int[MOST_STOPS];
      weight = new int[MOST_STOPS];
    }

    boolean isPlace(int number) {
      return number >= 0 && number < placeCount;
    }

    boolean isStop(int stop) {
      return stop >= 0 && stop < 2 * jobCount;
    }

    int wayBetween(int a, int b) {
      if (a < 0 || a >= placeCount || b < 0 || b >= placeCount) {
        return 0;
      }
      return ways[a * MOST_PLACES + b];
    }

    int tellPlace(int newX, int newY) {
      int number = placeCount;
      if (number >= MOST_PLACES) {
        return NONE;
      }
      x[number] = newX;
      y[number] = newY;
      for (int p = 0; p <= number; p++) {
        int sum = Math.abs(x[p] - newX) + Math.abs(y[p] - newY);
        ways[p * MOST_PLACES + number] = sum;
        ways[number * MOST_PLACES + p] = sum;
      }
      placeCount++;
      return number;
    }

    int tellJob(int from, int to, int load, int time, int newFine) {
      int number = jobCount;
      if (number >= MOST_JOBS) {
        return NONE;
      }
      jobCount++;
      fine[number] = newFine;
      tellStop(fetchOf(number), from, load, time);
      tellStop(bringOf(number), to, -load, time);
      return number;
    }

    private void tellStop(int stop, int where, int more, int time) {
      if (isStop(stop)) {
        place[stop] = where;
        weight[stop] = more;
        minutes[stop] = time;
        tellHours(stop, 0, LAST_MINUTE);
      }
    }

    void tellHours(int stop, int from, int to) {
      if (isStop(stop)) {
        opens[stop] = from;
        closes[stop] = to;
      }
    }
  }

  /** A vehicle with its route, and the rows that a search tries for it and keeps. */
  private static final class Vehicle {
    int home;
    int capacity;
    int leaves;
    int due;
    int price;
    int fixed;
    /** How many stops are set: kept, as only the clock changes it. */
    int set;
    /** What the route costs as a search starts. */
    int before;
    final Row row;
    final Row tried;
    final Row after;

    Vehicle() {
      row = new Row();
      tried = new Row();
      after = new Row();
    }
  }

  /** Stops in their order. A row becomes what another one tells, never what it tells itself. */
  private static final class Row {
    final int[] stops;
    int many;

    Row() {
      stops = new int[MOST_STOPS];
    }

    int at(int s) {
      return s >= 0 && s < many ? stops[s] : NONE;
    }

    int find(int stop) {
      for (int s = 0; s < many; s++) {
        if (stops[s] == stop) {
          return s;
        }
      }
      return NONE;
    }

    /** Whether a job has both its stops from i to k. */
    boolean holdsPair(int i, int k) {
      for (int s = i; s <= k; s++) {
        int stop = at(s);
        int bring = find(bringOf(jobOf(stop)));
        if (isFetch(stop) && bring <= k) {
          return true;
        }
      }
      return false;
    }

    /** Whether a job is fetched ahead of the stop i, and not brought ahead of it. */
    boolean splitsJob(int i) {
      for (int s = 0; s < i; s++) {
        if (find(bringOf(jobOf(at(s)))) >= i) {
          return true;
        }
      }
      return false;
    }

    private void add(int stop) {
      if (many < stops.length) {
        stops[many] = stop;
        many++;
      }
    }

    private void addPart(Row other, int from, int end) {
      for (int s = from; s < end && s < other.many; s++) {
        add(other.at(s));
      }
    }

    void become(Row other) {
      many = 0;
      for (int s = 0; s < other.many; s++) {
        add(other.stops[s]);
      }
    }

    void becomeWithout(Row other, int job) {
      many = 0;
      for (int s = 0; s < other.many; s++) {
        if (jobOf(other.at(s)) != job) {
          add(other.at(s));
        }
      }
    }

    void becomeWith(Row other, int job, int i, int k) {
      many = 0;
      addPart(other, 0, i);
      add(fetchOf(job));
      addPart(other, i, k - 1);
      add(bringOf(job));
      addPart(other, k - 1, other.many);
    }

    void becomeSwapped(Row other, int one, int two) {
      many = 0;
      for (int s = 0; s < other.many; s++) {
        int stop = other.at(s);
        int job = jobOf(stop);
        int partner = job == one ? two : job == two ? one : job;
        add(isFetch(stop) ? fetchOf(partner) : bringOf(partner));
      }
    }

    void becomeTurned(Row other, int i, int k) {
      many = 0;
      addPart(other, 0, i);
      for (int s = k; s >= i; s--) {
        add(other.at(s));
      }
      addPart(other, k + 1, other.many);
    }

    void becomeJoined(Row head, int i, Row tail, int k) {
      many = 0;
      addPart(head, 0, i);
      addPart(tail, k, tail.many);
    }
  }

  /** A ride along a row: where it has come to, and what has come together till there. */
  private static final class Trip {
    int where;
    int arrive;
    int begin;
    int leave;
    int load;
    int set;
    int waited;
    int distance;
    /** The sum of lengths times the load on them. */
    int carried;
    boolean right;

    void start(Vehicle v) {
      where = v.home;
      arrive = v.leaves;
      begin = v.leaves;
      leave = v.leaves;
      load = 0;
      set = 0;
      waited = 0;
      distance = 0;
      carried = 0;
      right = true;
    }

    private void goOn(int step, int next) {
      arrive = leave + step;
      distance += step;
      carried += step * load;
      where = next;
    }

    void visit(Facts facts, Vehicle v, int stop) {
      if (!facts.isStop(stop)) {
        return;
      }
      if (leave < facts.clock) {
        set++;
      }
      int next = facts.place[stop];
      goOn(facts.wayBetween(where, next), next);
      begin = Math.max(arrive, facts.opens[stop]);
      waited += begin - arrive;
      leave = begin + facts.minutes[stop];
      load += facts.weight[stop];
      if (begin > facts.closes[stop] || load > v.capacity) {
        right = false;
      }
    }

    private void goHome(Facts facts, Vehicle v) {
      goOn(facts.wayBetween(where, v.home), v.home);
      if (arrive > v.due) {
        right = false;
      }
    }

    /** Rides a row from home back to it, and answers what it costs. */
    int ride(Facts facts, Vehicle v, Row row) {
      start(v);
      for (int s = 0; s < row.many; s++) {
        visit(facts, v, row.at(s));
      }
      goHome(facts, v);
      return row.many == 0 ? 0 : v.fixed + v.price * distance;
    }

    void rideDelayed(Facts facts, Vehicle v, Row row, int stop, int minutes) {
      start(v);
      for (int s = 0; s < row.many; s++) {
        leave += s == stop ? minutes : 0;
        visit(facts, v, row.at(s));
      }
      goHome(facts, v);
    }

    /** Ends at the first stop that is not right, so nothing else of the trip counts then. */
    boolean isRideRight(Facts facts, Vehicle v, Row row) {
      start(v);
      for (int s = 0; s < row.many && right; s++) {
        visit(facts, v, row.at(s));
      }
      goHome(facts, v);
      return right;
    }

    /** Whether a change may leave the row just ridden as the route of the vehicle. */
    boolean isAllowed(Vehicle v) {
      return right && set == v.set;
    }
  }

  /** An insertion that a search has found; it adds NONE if there is none. */
  private static final class Insertion {
    int job;
    int vehicle;
    int i;
    int k;
    int adds;
    int regret;

    void become(Insertion other) {
      job = other.job;
      vehicle = other.vehicle;
      i = other.i;
      k = other.k;
      adds = other.adds;
      regret = other.regret;
    }

    /** Whether rebuild puts it ahead of another one, whose job has a smaller number. */
    boolean comesBefore(Insertion other) {
      return regret > other.regret || (regret == other.regret && adds < other.adds);
    }
  }
}

import java.util.ArrayList;
import java.util.Arrays;
import java.util.Collections;
import java.util.List;
import java.util.TreeMap;

/**
 * Long runs of calls, the same ones each time, on DroverPlan and on a model that is written down
 * word for word from the document: it makes every change there could be, looks at each whole ROUTE
 * anew, and holds nothing that can be worked out.
 */
public final class AgainstModel {
  private static final int RUNS = 900;
  private static int wrong = 0;
  private static final TreeMap<String, Integer> seen = new TreeMap<>();

  public static void main(String[] args) {
    for (int run = 0; run < RUNS && wrong < 20; run++) {
      new Run(run).go();
    }
    checkSeen();
    if (args.length > 0) {
      System.out.println(seen);
    }
    System.out.println(wrong == 0 ? "all runs answer as the model does" : wrong + " answers differ");
    System.exit(wrong == 0 ? 0 : 1);
  }

  /** Runs that never come to what is asked about show nothing, so what they came to is counted. */
  private static void checkSeen() {
    String[] needed = {
      "insert put", "insert none", "insertAt put", "insertAt none", "rebuild put", "ruin took",
      "repair took", "change 0", "change 1", "change 2", "change 3", "improve gained",
      "advance set", "setHours right", "setHours wrong", "take", "slack late", "slack",
      "set stops seen", "bring of a set job turned",
      "addPlace throws.IllegalArgumentException", "addPlace throws.IllegalStateException",
      "addVehicle throws.IndexOutOfBoundsException", "addVehicle throws.IllegalArgumentException",
      "addVehicle throws.IllegalStateException", "addJob throws.IndexOutOfBoundsException",
      "addJob throws.IllegalArgumentException", "addJob throws.IllegalStateException",
      "setHours throws.IndexOutOfBoundsException", "setHours throws.IllegalArgumentException",
      "setHours throws.IllegalStateException", "insert throws.IndexOutOfBoundsException",
      "insert throws.IllegalStateException", "insertAt throws.IndexOutOfBoundsException",
      "insertAt throws.IllegalArgumentException", "insertAt throws.IllegalStateException",
      "take throws.IndexOutOfBoundsException", "take throws.IllegalStateException",
      "ruin throws.IllegalArgumentException", "change throws.IllegalArgumentException",
      "improve throws.IllegalArgumentException", "repair throws.IndexOutOfBoundsException",
      "advance throws.IllegalArgumentException", "advance throws.IllegalStateException",
      "wouldAdd throws.IndexOutOfBoundsException", "wouldAdd throws.IllegalStateException",
      "gain throws.IllegalArgumentException", "laterBack throws.IndexOutOfBoundsException",
      "laterBack throws.IllegalArgumentException", "costWithout throws.IndexOutOfBoundsException",
    };
    for (String what : needed) {
      if (seen.getOrDefault(what, 0) == 0) {
        wrong++;
        System.out.println("no run came to: " + what);
      }
    }
  }

  private static void note(String what) {
    seen.merge(what, 1, Integer::sum);
  }

  private interface Call {
    Object run();
  }

  private static Object answerOf(Call call) {
    try {
      return call.run();
    } catch (RuntimeException e) {
      return "throws." + e.getClass().getSimpleName();
    }
  }

  /** One object and one model, and the calls that both answer. */
  private static final class Run {
    final int number;
    final DroverPlan plan = new DroverPlan();
    final Model model = new Model();
    final List<String> calls = new ArrayList<>();
    long state;
    final int spread;
    final int width;
    final int step;

    Run(int number) {
      this.number = number;
      state = number * 7919L + 17;
      spread = number % 3 == 0 ? 9 : number % 3 == 1 ? 30 : 60;
      width = number % 4 == 0 ? 1440 : number % 4 == 1 ? 60 : 300;
      step = number % 5 == 0 ? 3 : 25;
    }

    int pick(int below) {
      state = state * 6364136223846793005L + 1442695040888963407L;
      return (int) ((state >>> 33) % below);
    }

    /** A number that is mostly from least to most, and now and then just outside. */
    int near(int least, int most) {
      int lot = pick(60);
      if (lot == 0) {
        return least - 1;
      }
      return lot == 1 || most < least ? most + 1 : least + pick(most - least + 1);
    }

    int job() {
      return near(0, Math.max(0, model.jobs.size() - 1));
    }

    /** Mostly a job that is open, or one that is planned, if there is one. */
    int jobThatIs(boolean isOpen) {
      int first = pick(Math.max(1, model.jobs.size()));
      for (int n = 0; n < model.jobs.size() && pick(12) > 0; n++) {
        int job = (first + n) % model.jobs.size();
        if (model.vehicleOf(job) == -1 == isOpen) {
          return job;
        }
      }
      return job();
    }

    int vehicle() {
      return near(0, Math.max(0, model.vehicles.size() - 1));
    }

    int place() {
      return near(0, Math.max(0, model.places.size() - 1));
    }

    Object same(String call, Call real, Call due) {
      Object got = answerOf(real);
      Object want = answerOf(due);
      calls.add(call + " = " + want);
      if (!got.equals(want)) {
        wrong++;
        System.out.println("run " + number + ": " + call + " answered " + got + ", due is " + want);
        for (String told : calls) {
          System.out.println("    " + told);
        }
      }
      String name = call.substring(0, call.indexOf('('));
      if (want instanceof String) {
        note(name + " " + want);
      }
      return want;
    }

    void go() {
      int before = wrong;
      tell();
      int asked = 0;
      int rounds = 30 + pick(40);
      while (asked < rounds && wrong == before) {
        change();
        ask();
        same("digest()", () -> plan.digest(), () -> model.digest());
        asked++;
      }
      if (wrong == before) {
        askAll();
      }
    }

    void tell() {
      int places = 1 + pick(12);
      for (int n = 0; n < places; n++) {
        addPlace();
      }
      int vehicles = 1 + pick(3);
      for (int n = 0; n < vehicles; n++) {
        addVehicle();
      }
      int jobs = 1 + pick(9);
      for (int n = 0; n < jobs; n++) {
        addJob();
      }
      for (int n = 0; n < jobs; n++) {
        setHours();
      }
    }

    void change() {
      switch (pick(30)) {
        case 0 -> addPlace();
        case 1 -> addVehicle();
        case 2 -> addJob();
        case 3, 4, 5 -> setHours();
        case 6, 7 -> insert();
        case 8, 9, 10, 11, 12, 13, 14, 15 -> insertAt();
        case 16, 17 -> take();
        case 18 -> rebuild();
        case 19 -> ruin();
        case 20, 21, 22, 23 -> changeKind();
        case 24 -> improve();
        case 25, 26 -> repair();
        default -> advanceOrInsert();
      }
    }

    /** In some runs the clock stays for long, so that more can be changed. */
    void advanceOrInsert() {
      if (number % 3 == 0 && pick(8) > 0) {
        insertAt();
      } else {
        advance();
      }
    }

    void addPlace() {
      int x = near(0, spread);
      int y = near(0, spread);
      same("addPlace(" + x + ", " + y + ")", () -> plan.addPlace(x, y), () -> model.addPlace(x, y));
    }

    void addVehicle() {
      int home = place();
      int capacity = near(1, pick(3) == 0 ? 50 : 20);
      int from = pick(4) == 0 ? near(0, 200) : 0;
      int to = pick(4) == 0 ? near(from, 1440) : 1440;
      int price = near(1, 9);
      int fixed = pick(3) == 0 ? near(0, 200) : 0;
      same("addVehicle(" + home + ", " + capacity + ", " + from + ", " + to + ", " + price + ", "
          + fixed + ")", () -> plan.addVehicle(home, capacity, from, to, price, fixed),
          () -> model.addVehicle(home, capacity, from, to, price, fixed));
    }

    void addJob() {
      int from = place();
      int to = place();
      int load = near(1, pick(3) == 0 ? 20 : 6);
      int minutes = near(0, pick(2) == 0 ? 30 : 4);
      int fine = near(0, 999);
      same("addJob(" + from + ", " + to + ", " + load + ", " + minutes + ", " + fine + ")",
          () -> plan.addJob(from, to, load, minutes, fine),
          () -> model.addJob(from, to, load, minutes, fine));
    }

    void setHours() {
      int job = jobThatIs(false);
      boolean isFetched = pick(2) == 0;
      int from = near(0, pick(3) == 0 ? 1440 : 300);
      int to = pick(20) == 0 ? near(0, 1440) : Math.min(from + pick(width + 1), 1440);
      Object right = same("setHours(" + job + ", " + isFetched + ", " + from + ", " + to + ")",
          () -> plan.setHours(job, isFetched, from, to),
          () -> model.setHours(job, isFetched, from, to));
      if (right instanceof Boolean) {
        note((Boolean) right ? "setHours right" : "setHours wrong");
      }
    }

    void insert() {
      int job = jobThatIs(true);
      Object adds = same("insert(" + job + ")", () -> plan.insert(job), () -> model.insert(job));
      if (adds instanceof Integer) {
        note((Integer) adds < 0 ? "insert none" : "insert put");
      }
    }

    void insertAt() {
      int job = jobThatIs(true);
      int vehicle = vehicle();
      int n = vehicle >= 0 && vehicle < model.vehicles.size() ? model.route(vehicle).size() : 0;
      int i = near(0, n);
      int k = near(i + 1, n + 1);
      Object adds = same("insertAt(" + job + ", " + vehicle + ", " + i + ", " + k + ")",
          () -> plan.insertAt(job, vehicle, i, k), () -> model.insertAt(job, vehicle, i, k));
      if (adds instanceof Integer) {
        note((Integer) adds < 0 ? "insertAt none" : "insertAt put");
      }
    }

    void take() {
      int job = jobThatIs(false);
      if (same("take(" + job + ")", () -> plan.take(job), () -> model.take(job)) instanceof Integer) {
        note("take");
      }
    }

    void rebuild() {
      Object put = same("rebuild()", () -> plan.rebuild(), () -> model.rebuild());
      noteIfAbove(put, "rebuild put");
    }

    void ruin() {
      int many = near(1, pick(2) == 0 ? 3 : 9);
      noteIfAbove(same("ruin(" + many + ")", () -> plan.ruin(many), () -> model.ruin(many)),
          "ruin took");
    }

    void changeKind() {
      int kind = near(0, 3);
      noteIfAbove(same("change(" + kind + ")", () -> plan.change(kind), () -> model.change(kind)),
          "change " + kind);
    }

    void improve() {
      int most = near(1, pick(2) == 0 ? 2 : 10);
      noteIfAbove(same("improve(" + most + ")", () -> plan.improve(most),
          () -> model.improve(most)), "improve gained");
    }

    void repair() {
      int vehicle = vehicle();
      noteIfAbove(same("repair(" + vehicle + ")", () -> plan.repair(vehicle),
          () -> model.repair(vehicle)), "repair took");
    }

    void advance() {
      int minutes = near(1, pick(40) == 0 ? 1440 : step);
      noteIfAbove(same("advance(" + minutes + ")", () -> plan.advance(minutes),
          () -> model.advance(minutes)), "advance set");
      for (int v = 0; v < model.vehicles.size(); v++) {
        if (model.ride(v, model.route(v)).set > 0) {
          note("set stops seen");
        }
      }
    }

    void noteIfAbove(Object number, String what) {
      if (number instanceof Integer && (Integer) number > 0) {
        note(what);
      }
    }

    void ask() {
      int job = job();
      int open = jobThatIs(true);
      int vehicle = vehicle();
      int n = vehicle >= 0 && vehicle < model.vehicles.size() ? model.route(vehicle).size() : 0;
      int stop = near(0, Math.max(0, n - 1));
      int minutes = near(0, 1440);
      int kind = near(0, 3);
      same("wouldAdd(" + open + ", " + vehicle + ")", () -> plan.wouldAdd(open, vehicle),
          () -> model.wouldAdd(open, vehicle));
      same("laterBack(" + vehicle + ", " + stop + ", " + minutes + ")",
          () -> plan.laterBack(vehicle, stop, minutes),
          () -> model.laterBack(vehicle, stop, minutes));
      same("costWithout(" + job + ")", () -> plan.costWithout(job), () -> model.costWithout(job));
      same("gain(" + kind + ")", () -> plan.gain(kind), () -> model.gain(kind));
      same("fullness()", () -> plan.fullness(), () -> model.fullness());
    }

    void askAll() {
      same("clock()", () -> plan.clock(), () -> model.clock);
      same("places()", () -> plan.places(), () -> model.places.size());
      same("vehicles()", () -> plan.vehicles(), () -> model.vehicles.size());
      same("jobs()", () -> plan.jobs(), () -> model.jobs.size());
      same("cost()", () -> plan.cost(), () -> model.cost());
      for (int a = -1; a <= model.places.size(); a++) {
        int from = a;
        int to = place();
        same("way(" + from + ", " + to + ")", () -> plan.way(from, to), () -> model.way(from, to));
      }
      for (int j = -1; j <= model.jobs.size(); j++) {
        int job = j;
        same("vehicleOf(" + job + ")", () -> plan.vehicleOf(job), () -> model.vehicleOf(job));
        same("isSet(" + job + ")", () -> plan.isSet(job), () -> model.isSet(job));
      }
      for (int v = -1; v <= model.vehicles.size(); v++) {
        askVehicle(v);
      }
    }

    void askVehicle(int v) {
      same("stops(" + v + ")", () -> plan.stops(v), () -> model.asked(v).size());
      same("setStops(" + v + ")", () -> plan.setStops(v), () -> model.rideAsked(v).set);
      same("back(" + v + ")", () -> plan.back(v), () -> model.rideAsked(v).back);
      same("waits(" + v + ")", () -> plan.waits(v), () -> model.rideAsked(v).waits);
      same("isRight(" + v + ")", () -> plan.isRight(v), () -> model.rideAsked(v).right);
      same("length(" + v + ")", () -> plan.length(v), () -> model.rideAsked(v).length);
      same("costOf(" + v + ")", () -> plan.costOf(v), () -> model.costAsked(v));
      int n = v >= 0 && v < model.vehicles.size() ? model.route(v).size() : 0;
      for (int s = -1; s <= n; s++) {
        askStop(v, s);
      }
    }

    void askStop(int v, int s) {
      same("jobAt(" + v + ", " + s + ")", () -> plan.jobAt(v, s), () -> model.stop(v, s).job);
      same("isFetched(" + v + ", " + s + ")", () -> plan.isFetched(v, s),
          () -> model.stop(v, s).fetched);
      same("arrives(" + v + ", " + s + ")", () -> plan.arrives(v, s),
          () -> model.rideAsked(v, s).arrive[s]);
      same("begins(" + v + ", " + s + ")", () -> plan.begins(v, s),
          () -> model.rideAsked(v, s).begin[s]);
      same("loadBehind(" + v + ", " + s + ")", () -> plan.loadBehind(v, s),
          () -> model.rideAsked(v, s).load[s]);
      Object slack = same("slack(" + v + ", " + s + ")", () -> plan.slack(v, s),
          () -> model.slack(v, s));
      if (slack instanceof Integer) {
        note((Integer) slack < 0 ? "slack late" : "slack");
      }
    }
  }

  private record Stop(int job, boolean fetched) {}

  private record Vehicle(int home, int capacity, int from, int to, int price, int fixed) {}

  private record Job(int from, int to, int load, int minutes, int fine, int[] fetchHours,
      int[] bringHours) {}

  private record Insertion(int job, int vehicle, int i, int k, int adds, List<Stop> route) {}

  /** The routes of the vehicles that a change is about, null for those of the others. */
  private record Change(int gain, List<List<Stop>> routes) {}

  private static final class Ride {
    int[] arrive;
    int[] begin;
    int[] leave;
    int[] load;
    int back;
    int waits;
    int length;
    int set;
    long carried;
    boolean right = true;
  }

  /** What the document says, worked out anew at each question. */
  private static final class Model {
    final List<int[]> places = new ArrayList<>();
    final List<Vehicle> vehicles = new ArrayList<>();
    final List<Job> jobs = new ArrayList<>();
    List<List<Stop>> routes = new ArrayList<>();
    int clock = 0;

    // ---- what there is

    void needPlace(int place) {
      if (place < 0 || place >= places.size()) throw new IndexOutOfBoundsException();
    }

    void needVehicle(int vehicle) {
      if (vehicle < 0 || vehicle >= vehicles.size()) throw new IndexOutOfBoundsException();
    }

    void needJob(int job) {
      if (job < 0 || job >= jobs.size()) throw new IndexOutOfBoundsException();
    }

    void need(int number, int least, int most) {
      if (number < least || number > most) throw new IllegalArgumentException();
    }

    int addPlace(int x, int y) {
      need(x, 0, 60);
      need(y, 0, 60);
      if (places.size() == 12) throw new IllegalStateException();
      places.add(new int[] {x, y});
      return places.size() - 1;
    }

    int addVehicle(int home, int capacity, int from, int to, int price, int fixed) {
      needPlace(home);
      need(capacity, 1, 50);
      need(from, 0, 1440);
      need(to, from, 1440);
      need(price, 1, 9);
      need(fixed, 0, 200);
      if (vehicles.size() == 3) throw new IllegalStateException();
      vehicles.add(new Vehicle(home, capacity, from, to, price, fixed));
      routes.add(new ArrayList<>());
      return vehicles.size() - 1;
    }

    int addJob(int from, int to, int load, int minutes, int fine) {
      needPlace(from);
      needPlace(to);
      need(load, 1, 20);
      need(minutes, 0, 30);
      need(fine, 0, 999);
      if (jobs.size() == 9) throw new IllegalStateException();
      jobs.add(new Job(from, to, load, minutes, fine, new int[] {0, 1440}, new int[] {0, 1440}));
      return jobs.size() - 1;
    }

    boolean setHours(int job, boolean isFetched, int from, int to) {
      needJob(job);
      need(from, 0, 1440);
      need(to, from, 1440);
      if (isSet(job)) throw new IllegalStateException();
      int[] hours = isFetched ? jobs.get(job).fetchHours : jobs.get(job).bringHours;
      hours[0] = from;
      hours[1] = to;
      return allRight();
    }

    int way(int from, int to) {
      needPlace(from);
      needPlace(to);
      int[] a = places.get(from);
      int[] b = places.get(to);
      return Math.abs(a[0] - b[0]) + Math.abs(a[1] - b[1]);
    }

    // ---- routes

    List<Stop> route(int vehicle) {
      return routes.get(vehicle);
    }

    List<Stop> asked(int vehicle) {
      needVehicle(vehicle);
      return routes.get(vehicle);
    }

    Stop stop(int vehicle, int stop) {
      needVehicle(vehicle);
      if (stop < 0 || stop >= route(vehicle).size()) throw new IndexOutOfBoundsException();
      return route(vehicle).get(stop);
    }

    Ride rideAsked(int vehicle) {
      return ride(vehicle, asked(vehicle));
    }

    Ride rideAsked(int vehicle, int stop) {
      stop(vehicle, stop);
      return ride(vehicle, route(vehicle));
    }

    int costAsked(int vehicle) {
      return costOf(vehicle, asked(vehicle));
    }

    int placeOf(Stop stop) {
      Job job = jobs.get(stop.job);
      return stop.fetched ? job.from : job.to;
    }

    int[] hoursOf(Stop stop) {
      Job job = jobs.get(stop.job);
      return stop.fetched ? job.fetchHours : job.bringHours;
    }

    Ride ride(int vehicle, List<Stop> route) {
      return ride(vehicle, route, -1, 0);
    }

    /** With a delay ahead of one stop. */
    Ride ride(int vehicle, List<Stop> route, int late, int minutes) {
      Vehicle v = vehicles.get(vehicle);
      Ride r = new Ride();
      int n = route.size();
      r.arrive = new int[n];
      r.begin = new int[n];
      r.leave = new int[n];
      r.load = new int[n];
      for (int s = 0; s < n; s++) {
        Stop stop = route.get(s);
        int leftAhead = s == 0 ? v.from : r.leave[s - 1];
        int loadAhead = s == 0 ? 0 : r.load[s - 1];
        int way = way(s == 0 ? v.home : placeOf(route.get(s - 1)), placeOf(stop));
        if (leftAhead < clock) r.set++;
        r.arrive[s] = leftAhead + way + (s == late ? minutes : 0);
        r.begin[s] = Math.max(r.arrive[s], hoursOf(stop)[0]);
        r.leave[s] = r.begin[s] + jobs.get(stop.job).minutes;
        r.load[s] = loadAhead + (stop.fetched ? 1 : -1) * jobs.get(stop.job).load;
        r.waits += r.begin[s] - r.arrive[s];
        r.length += way;
        r.carried += (long) way * loadAhead;
        if (r.begin[s] > hoursOf(stop)[1] || r.load[s] > v.capacity) r.right = false;
      }
      int wayHome = n == 0 ? 0 : way(placeOf(route.get(n - 1)), v.home);
      r.length += wayHome;
      r.carried += n == 0 ? 0 : (long) wayHome * r.load[n - 1];
      r.back = n == 0 ? v.from : r.leave[n - 1] + wayHome;
      if (n > 0 && r.back > v.to) r.right = false;
      return r;
    }

    boolean allRight() {
      for (int v = 0; v < vehicles.size(); v++) {
        if (!ride(v, route(v)).right) return false;
      }
      return true;
    }

    int costOf(int vehicle, List<Stop> route) {
      Vehicle v = vehicles.get(vehicle);
      return route.isEmpty() ? 0 : v.fixed + ride(vehicle, route).length * v.price;
    }

    int cost() {
      int sum = 0;
      for (int v = 0; v < vehicles.size(); v++) sum += costOf(v, route(v));
      for (int j = 0; j < jobs.size(); j++) if (vehicleOf(j) == -1) sum += jobs.get(j).fine;
      return sum;
    }

    int vehicleOf(int job) {
      needJob(job);
      for (int v = 0; v < vehicles.size(); v++) {
        if (route(v).contains(new Stop(job, true))) return v;
      }
      return -1;
    }

    boolean isSet(int job) {
      int v = vehicleOf(job);
      if (v == -1) return false;
      int set = ride(v, route(v)).set;
      for (Stop stop : route(v).subList(0, set)) if (stop.job == job) return true;
      return false;
    }

    boolean isFree(int job) {
      return vehicleOf(job) != -1 && !isSet(job);
    }

    // ---- changes

    /** Whether what 4 says of all changes holds for a route that takes a vehicle's place. */
    boolean allows(int vehicle, List<Stop> after) {
      Ride then = ride(vehicle, after);
      int set = ride(vehicle, route(vehicle)).set;
      return then.right && then.set == set && after.size() >= set
          && after.subList(0, set).equals(route(vehicle).subList(0, set));
    }

    List<Stop> without(List<Stop> route, int job) {
      List<Stop> left = new ArrayList<>(route);
      left.removeIf(stop -> stop.job == job);
      return left;
    }

    List<Insertion> insertions(int job, int vehicle, List<Stop> route) {
      List<Insertion> all = new ArrayList<>();
      for (int i = 0; i <= route.size(); i++) {
        for (int k = i + 1; k <= route.size() + 1; k++) {
          List<Stop> after = new ArrayList<>(route);
          after.add(i, new Stop(job, true));
          after.add(k, new Stop(job, false));
          if (allows(vehicle, after)) {
            int adds = costOf(vehicle, after) - costOf(vehicle, route);
            all.add(new Insertion(job, vehicle, i, k, adds, after));
          }
        }
      }
      return all;
    }

    Insertion bestInto(int job, int vehicle) {
      Insertion best = null;
      for (Insertion one : insertions(job, vehicle, route(vehicle))) {
        if (best == null || one.adds < best.adds) best = one;
      }
      return best;
    }

    Insertion bestOf(int job) {
      Insertion best = null;
      for (int v = 0; v < vehicles.size(); v++) {
        Insertion one = bestInto(job, v);
        if (one != null && (best == null || one.adds < best.adds)) best = one;
      }
      return best;
    }

    int insert(int job) {
      needJob(job);
      if (vehicleOf(job) != -1) throw new IllegalStateException();
      Insertion best = bestOf(job);
      if (best == null) return -1;
      routes.set(best.vehicle, best.route);
      return best.adds;
    }

    int insertAt(int job, int vehicle, int i, int k) {
      needJob(job);
      needVehicle(vehicle);
      if (!(0 <= i && i < k && k <= route(vehicle).size() + 1)) throw new IllegalArgumentException();
      if (vehicleOf(job) != -1) throw new IllegalStateException();
      for (Insertion one : insertions(job, vehicle, route(vehicle))) {
        if (one.i == i && one.k == k) {
          routes.set(vehicle, one.route);
          return one.adds;
        }
      }
      return -1;
    }

    int wouldAdd(int job, int vehicle) {
      needJob(job);
      needVehicle(vehicle);
      if (vehicleOf(job) != -1) throw new IllegalStateException();
      Insertion best = bestInto(job, vehicle);
      return best == null ? -1 : best.adds;
    }

    int saved(int job) {
      int v = vehicleOf(job);
      return costOf(v, route(v)) - costOf(v, without(route(v), job));
    }

    int take(int job) {
      needJob(job);
      if (!isFree(job)) throw new IllegalStateException();
      int saved = saved(job);
      int v = vehicleOf(job);
      routes.set(v, without(route(v), job));
      return saved;
    }

    int regret(int job) {
      Insertion best = bestOf(job);
      Insertion other = null;
      for (int v = 0; v < vehicles.size(); v++) {
        Insertion one = v == best.vehicle ? null : bestInto(job, v);
        if (one != null && (other == null || one.adds < other.adds)) other = one;
      }
      return other == null ? 9999 : other.adds - best.adds;
    }

    int rebuild() {
      int count = 0;
      while (true) {
        int next = -1;
        for (int j = 0; j < jobs.size(); j++) {
          if (vehicleOf(j) != -1) continue;
          Insertion best = bestOf(j);
          if (best == null || best.adds >= jobs.get(j).fine) continue;
          if (next == -1 || regret(j) > regret(next)
              || regret(j) == regret(next) && best.adds < bestOf(next).adds) next = j;
        }
        if (next == -1) return count;
        insert(next);
        count++;
      }
    }

    int ruin(int many) {
      need(many, 1, 9);
      int count = 0;
      while (count < many) {
        int next = -1;
        for (int j = 0; j < jobs.size(); j++) {
          if (isFree(j) && (next == -1 || saved(j) > saved(next))) next = j;
        }
        if (next == -1) return count;
        take(next);
        count++;
      }
      return count;
    }

    int repair(int vehicle) {
      needVehicle(vehicle);
      int count = 0;
      while (!ride(vehicle, route(vehicle)).right) {
        int last = -1;
        int best = -1;
        int least = 0;
        for (int j = 0; j < jobs.size(); j++) {
          if (vehicleOf(j) != vehicle || isSet(j)) continue;
          last = j;
          List<Stop> left = without(route(vehicle), j);
          if (ride(vehicle, left).right && (best == -1 || costOf(vehicle, left) < least)) {
            best = j;
            least = costOf(vehicle, left);
          }
        }
        if (last == -1) return count;
        take(best == -1 ? last : best);
        count++;
      }
      return count;
    }

    int advance(int minutes) {
      need(minutes, 1, 1440);
      if (clock + minutes > 1440 || !allRight()) throw new IllegalStateException();
      int before = 0;
      int behind = 0;
      for (int v = 0; v < vehicles.size(); v++) before += ride(v, route(v)).set;
      clock += minutes;
      for (int v = 0; v < vehicles.size(); v++) behind += ride(v, route(v)).set;
      return behind - before;
    }

    // ---- the four kinds

    /** All changes of a kind that are allowed, in the order of their numbers in braces. */
    List<Change> changes(int kind) {
      List<Change> all = new ArrayList<>();
      switch (kind) {
        case 0 -> moves(all);
        case 1 -> swaps(all);
        case 2 -> turns(all);
        default -> ends(all);
      }
      return all;
    }

    void offer(List<Change> all, List<List<Stop>> after) {
      int gain = 0;
      for (int v = 0; v < vehicles.size(); v++) {
        if (after.get(v) == null) continue;
        if (!allows(v, after.get(v))) return;
        gain += costOf(v, route(v)) - costOf(v, after.get(v));
      }
      all.add(new Change(gain, after));
    }

    List<List<Stop>> nothing() {
      return new ArrayList<>(Collections.nCopies(vehicles.size(), null));
    }

    void moves(List<Change> all) {
      for (int j = 0; j < jobs.size(); j++) {
        if (!isFree(j)) continue;
        int own = vehicleOf(j);
        for (int v = 0; v < vehicles.size(); v++) {
          List<Stop> row = v == own ? without(route(v), j) : route(v);
          for (Insertion one : insertions(j, v, row)) {
            List<List<Stop>> after = nothing();
            after.set(own, without(route(own), j));
            after.set(v, one.route);
            offer(all, after);
          }
        }
      }
    }

    void swaps(List<Change> all) {
      for (int a = 0; a < jobs.size(); a++) {
        for (int b = a + 1; b < jobs.size(); b++) {
          if (!isFree(a) || !isFree(b)) continue;
          List<List<Stop>> after = nothing();
          for (int v : new int[] {vehicleOf(a), vehicleOf(b)}) {
            List<Stop> row = new ArrayList<>(route(v));
            for (boolean fetched : new boolean[] {true, false}) {
              int atA = route(v).indexOf(new Stop(a, fetched));
              int atB = route(v).indexOf(new Stop(b, fetched));
              if (atA >= 0) row.set(atA, new Stop(b, fetched));
              if (atB >= 0) row.set(atB, new Stop(a, fetched));
            }
            after.set(v, row);
          }
          offer(all, after);
        }
      }
    }

    void turns(List<Change> all) {
      for (int v = 0; v < vehicles.size(); v++) {
        int set = ride(v, route(v)).set;
        for (int i = set; i < route(v).size(); i++) {
          for (int k = i + 1; k < route(v).size(); k++) {
            List<Stop> row = new ArrayList<>(route(v));
            Collections.reverse(row.subList(i, k + 1));
            boolean inOrder = true;
            boolean bringsSet = false;
            for (Stop stop : row) {
              inOrder &= row.indexOf(new Stop(stop.job, true)) < row.indexOf(new Stop(stop.job, false));
            }
            for (Stop stop : row.subList(i, k + 1)) bringsSet |= isSet(stop.job);
            if (!inOrder) continue;
            List<List<Stop>> after = nothing();
            after.set(v, row);
            int before = all.size();
            offer(all, after);
            if (all.size() > before && bringsSet && all.get(before).gain > 0) {
              note("bring of a set job turned");
            }
          }
        }
      }
    }

    void ends(List<Change> all) {
      for (int a = 0; a < vehicles.size(); a++) {
        for (int b = a + 1; b < vehicles.size(); b++) {
          int setA = ride(a, route(a)).set;
          int setB = ride(b, route(b)).set;
          for (int i = setA; i <= route(a).size(); i++) {
            for (int k = setB; k <= route(b).size(); k++) {
              List<Stop> one = new ArrayList<>(route(a).subList(0, i));
              one.addAll(route(b).subList(k, route(b).size()));
              List<Stop> other = new ArrayList<>(route(b).subList(0, k));
              other.addAll(route(a).subList(i, route(a).size()));
              if (!isWhole(one) || !isWhole(other)) continue;
              List<List<Stop>> after = nothing();
              after.set(a, one);
              after.set(b, other);
              offer(all, after);
            }
          }
        }
      }
    }

    boolean isWhole(List<Stop> route) {
      for (Stop stop : route) if (!route.contains(new Stop(stop.job, !stop.fetched))) return false;
      return true;
    }

    Change best(int kind) {
      Change best = null;
      for (Change one : changes(kind)) {
        if (one.gain > 0 && (best == null || one.gain > best.gain)) best = one;
      }
      return best;
    }

    int gain(int kind) {
      need(kind, 0, 3);
      Change best = best(kind);
      return best == null ? 0 : best.gain;
    }

    int make(Change change) {
      if (change == null) return 0;
      for (int v = 0; v < vehicles.size(); v++) {
        if (change.routes.get(v) != null) routes.set(v, change.routes.get(v));
      }
      return change.gain;
    }

    int change(int kind) {
      need(kind, 0, 3);
      return make(best(kind));
    }

    int improve(int most) {
      need(most, 1, 10);
      int sum = 0;
      for (int n = 0; n < most; n++) {
        Change best = null;
        for (int kind = 0; kind < 4; kind++) {
          Change one = best(kind);
          if (one != null && (best == null || one.gain > best.gain)) best = one;
        }
        sum += make(best);
      }
      return sum;
    }

    // ---- what would be

    int slack(int vehicle, int stop) {
      stop(vehicle, stop);
      int later = -1;
      while (later < 3000 && isInTime(vehicle, stop, later + 1)) later++;
      return later;
    }

    boolean isInTime(int vehicle, int stop, int minutes) {
      Ride r = ride(vehicle, route(vehicle), stop, minutes);
      for (int s = stop; s < route(vehicle).size(); s++) {
        if (r.begin[s] > hoursOf(route(vehicle).get(s))[1]) return false;
      }
      return r.back <= vehicles.get(vehicle).to;
    }

    int laterBack(int vehicle, int stop, int minutes) {
      stop(vehicle, stop);
      need(minutes, 0, 1440);
      return ride(vehicle, route(vehicle), stop, minutes).back - ride(vehicle, route(vehicle)).back;
    }

    int costWithout(int job) {
      needJob(job);
      int sum = 0;
      for (int v = 0; v < vehicles.size(); v++) sum += costOf(v, without(route(v), job));
      for (int j = 0; j < jobs.size(); j++) {
        if (j != job && vehicleOf(j) == -1) sum += jobs.get(j).fine;
      }
      return sum;
    }

    double fullness() {
      long carried = 0;
      long room = 0;
      for (int v = 0; v < vehicles.size(); v++) {
        Ride r = ride(v, route(v));
        carried += r.carried;
        room += (long) r.length * vehicles.get(v).capacity;
      }
      return room == 0 ? 0.0 : (double) carried / room;
    }

    long digest() {
      List<Integer> all = new ArrayList<>(Arrays.asList(
          clock, places.size(), vehicles.size(), jobs.size(), cost()));
      for (int v = 0; v < vehicles.size(); v++) {
        Ride r = ride(v, route(v));
        all.addAll(Arrays.asList(route(v).size(), r.set, r.back, r.waits, r.right ? 1 : 0, r.length,
            costOf(v, route(v))));
        for (int s = 0; s < route(v).size(); s++) {
          Stop stop = route(v).get(s);
          all.addAll(Arrays.asList(stop.job, stop.fetched ? 1 : 0, r.arrive[s], r.begin[s],
              r.load[s], slack(v, s)));
        }
      }
      for (int j = 0; j < jobs.size(); j++) {
        all.add(vehicleOf(j));
        all.add(isSet(j) ? 1 : 0);
      }
      for (int kind = 0; kind < 4; kind++) all.add(gain(kind));
      long d = 58033;
      for (int x : all) d = d * 31 + x;
      return d;
    }
  }
}

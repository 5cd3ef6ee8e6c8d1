import java.util.List;
import java.util.function.Supplier;

/** The boundary cases of the four kinds of changes: promises 11, 12 and 38. */
public final class EdgesChangeKinds extends Check {
  public static void main(String[] args) {
    refused();
    noGain();
    leastGains();
    eachKindByItself();
    openOrSet();
    moveToTheLimits();
    moveInItsRoute();
    moveOutOfWrongRoute();
    moveTies();
    swapToTheLimits();
    swapInOneRoute();
    swapOfSetJobs();
    swapTies();
    turnToTheLimits();
    turnKeepsOrder();
    turnOfWrongRoute();
    turnAndSetStops();
    turnTies();
    endsWholeOrNone();
    endsSplitNoJob();
    endsToTheLimits();
    endsAndSetStops();
    endsTies();
    otherRoutesNotRight();
    nothingComesIn();
    improveAtMost();
    improveKinds();
    fullHouseChanges();
    end();
  }

  /** The gain of a kind is told, nothing is changed; then the change is made, and none is left. */
  private static void gains(String what, int kind, int gain, Supplier<DroverPlan> made,
      String... rows) {
    idle(38, what, gain, made, p -> p.gain(kind));
    if (gain == 0) {
      idle(11, what, 0, made, p -> p.change(kind));
      return;
    }
    DroverPlan p = made.get();
    int before = p.cost();
    due(11, what, gain, () -> p.change(kind));
    due(11, what + "; the cost is less by the gain", before - gain, () -> p.cost());
    for (int n = 0; n < rows.length; n++) {
      int v = n;
      due(11, what + "; route " + v, rows[v], () -> row(p, v));
    }
  }

  /** Vehicles of price 1, of capacity 10 and not fixed, each at the place that is told. */
  private static DroverPlan at(int... homes) {
    DroverPlan p = line();
    for (int home : homes) {
      p.addVehicle(home, 10, 0, 1440, 1, 0);
    }
    return p;
  }

  /** A job of load 1 and no minutes that is fetched at a place and brought there, fine 0. */
  private static void visits(DroverPlan p, int... places) {
    for (int place : places) {
      p.addJob(place, place, 1, 0, 0);
    }
  }

  /** Vehicles at 0 and 6, each with the job that is near the other one. */
  private static DroverPlan crossed() {
    DroverPlan p = at(0, 6);
    visits(p, 1, 5);
    lay(p, 0, "+1-1");
    lay(p, 1, "+0-0");
    return p;
  }

  // ---- the kinds are 0 to 3, and a change has a gain above 0

  private static void refused() {
    for (int no : outside(0, 3)) {
      idle(11, "kind " + no, ARGUMENT, EdgesChangeKinds::crossed, p -> p.change(no));
      idle(38, "kind " + no, ARGUMENT, EdgesChangeKinds::crossed, p -> p.gain(no));
      idle(11, "kind " + no + " of nothing", ARGUMENT, DroverPlan::new, p -> p.change(no));
      idle(38, "kind " + no + " of nothing", ARGUMENT, DroverPlan::new, p -> p.gain(no));
    }
    for (int no : outside(1, 10)) {
      idle(12, "most " + no, ARGUMENT, EdgesChangeKinds::crossed, p -> p.improve(no));
      idle(12, "most " + no + " of nothing", ARGUMENT, DroverPlan::new, p -> p.improve(no));
    }
  }

  private static void noGain() {
    Supplier<DroverPlan> twoAlike = () -> {
      DroverPlan p = at(0, 0);
      visits(p, 1);
      lay(p, 0, "+0-0");
      return p;
    };
    Supplier<DroverPlan> oneRoute = () -> {
      DroverPlan p = at(0);
      visits(p, 1, 1);
      lay(p, 0, "+1+0-0-1");
      return p;
    };
    for (int kind = 0; kind < 4; kind++) {
      gains("nothing there", kind, 0, DroverPlan::new);
      gains("routes without stops", kind, 0, () -> at(0, 6));
      gains("a change that gains 0, two vehicles alike", kind, 0, twoAlike);
      gains("a change that gains 0, two jobs alike", kind, 0, oneRoute);
    }
    for (int most = 1; most <= 10; most++) {
      int m = most;
      idle(12, "changes that gain 0", 0, twoAlike, p -> p.improve(m));
      idle(12, "changes that gain 0, one route", 0, oneRoute, p -> p.improve(m));
    }
  }

  /** Vehicles at one home; the second one is cheaper by 1. */
  private static DroverPlan cheaperByOne() {
    DroverPlan p = line();
    p.addVehicle(0, 10, 0, 1440, 1, 6);
    p.addVehicle(0, 10, 0, 1440, 1, 5);
    visits(p, 1);
    lay(p, 0, "+0-0");
    return p;
  }

  private static void leastGains() {
    gains("a gain of 1", 0, 1, EdgesChangeKinds::cheaperByOne, "", "+0-0");
    gains("a gain of 1", 3, 1, EdgesChangeKinds::cheaperByOne, "", "+0-0");
    due(12, "a gain of 1", 1, () -> cheaperByOne().improve(1));
    gains("the other way round it would cost 1 more", 0, 0, () -> {
      DroverPlan p = cheaperByOne();
      p.change(0);
      return p;
    });
    // Way home from 3 over 1, 2 and 2, or over 1, 2 and 0: a step to and fro more than needed.
    gains("a gain of 2", 0, 2, () -> steps(2), "+0+1-1-0");
    gains("a gain of 2", 1, 2, () -> steps(2), "+1-1+0-0");
    gains("a gain of 2", 2, 2, () -> steps(0), "+0+1-0-1");
  }

  /** Places next to each other; job 0 goes from 3 to 1, then job 1 from 2 to the one that is told. */
  private static DroverPlan steps(int to) {
    DroverPlan p = new DroverPlan();
    for (int x = 0; x <= 3; x++) {
      p.addPlace(x, 0);
    }
    p.addVehicle(0, 10, 0, 1440, 1, 0);
    p.addJob(3, 1, 1, 0, 0);
    p.addJob(2, to, 1, 0, 0);
    lay(p, 0, "+0-0+1-1");
    return p;
  }

  /** The gain of a kind is not that of another one, be it greater or smaller. */
  private static void eachKindByItself() {
    List<Supplier<DroverPlan>> all = List.of(EdgesChangeKinds::crossed, () -> turned(10, 5, 1440),
        () -> nearOther(2, 0, 1440), () -> dearVehicle(), () -> at(0, 6));
    int[][] dues = {{100, 160, 0, 160}, {20, 0, 20, 0}, {40, 0, 0, 40}, {0, 0, 0, 50}, {0, 0, 0, 0}};
    for (int n = 0; n < dues.length; n++) {
      DroverPlan p = all.get(n).get();
      for (int k = 0; k < 8; k++) {
        int kind = k * 3 % 4;
        due(38, "kind " + kind + " of " + n, dues[n][kind], () -> p.gain(kind));
      }
      for (int kind = 0; kind < 4; kind++) {
        int k = kind;
        DroverPlan q = all.get(n).get();
        due(11, "kind " + kind + " of " + n, dues[n][kind], () -> q.change(k));
      }
      int most = Math.max(Math.max(dues[n][0], dues[n][1]), Math.max(dues[n][2], dues[n][3]));
      due(12, "the greatest of " + n, most, () -> p.improve(1));
    }
  }

  /** Two vehicles at one home, the first one dear to be used, with two jobs on the same way. */
  private static DroverPlan dearVehicle() {
    DroverPlan p = line();
    p.addVehicle(0, 10, 0, 1440, 1, 50);
    p.addVehicle(0, 10, 0, 1440, 1, 0);
    visits(p, 1, 1);
    lay(p, 0, "+0-0+1-1");
    return p;
  }

  /** Of a planned job that is not set; open and set ones stay. */
  private static void openOrSet() {
    Supplier<DroverPlan> open = () -> {
      DroverPlan p = at(0, 6);
      p.addJob(1, 1, 1, 0, 999);
      visits(p, 1);
      lay(p, 1, "+1-1");
      return p;
    };
    gains("a planned job next to an open one", 0, 100, () -> {
      DroverPlan p = open.get();
      p.addVehicle(1, 1, 0, 1440, 1, 0);
      return p;
    }, "", "", "+1-1");
    gains("an open job is not changed with a planned one", 1, 0, open);
    for (int kind = 0; kind < 4; kind++) {
      gains("open jobs only", kind, 0, Check::oneOpen);
      gains("a set job only", kind, 0, Check::oneSet);
      int k = kind;
      gains("both crossed jobs are set", kind, 0, () -> {
        DroverPlan p = crossed();
        p.advance(1);
        due(21, "set, for kind " + k, true, () -> p.isSet(0) && p.isSet(1));
        return p;
      });
    }
  }

  // ---- kind 0: one job is moved

  /** A job of load 2 at 2 is carried from 0; vehicle 1 is there. */
  private static DroverPlan nearOther(int capacity, int from, int to) {
    DroverPlan p = at(0);
    p.addVehicle(2, capacity, from, to, 1, 0);
    p.addJob(2, 2, 2, 3, 0);
    lay(p, 0, "+0-0");
    return p;
  }

  private static void moveToTheLimits() {
    gains("load as the capacity", 0, 40, () -> nearOther(2, 0, 1440), "", "+0-0");
    gains("load one above the capacity", 0, 0, () -> nearOther(1, 0, 1440));
    gains("back at the last minute", 0, 40, () -> nearOther(2, 10, 16), "", "+0-0");
    gains("back a minute late", 0, 0, () -> nearOther(2, 10, 15));
    Supplier<DroverPlan> hours = () -> {
      DroverPlan p = nearOther(2, 10, 1440);
      p.setHours(0, false, 23, 23);
      return p;
    };
    gains("within the hours, in which it waits", 0, 40, hours, "", "+0-0");
    gains("fetched at the last minute", 0, 40, () -> {
      DroverPlan p = nearOther(2, 20, 1440);
      p.setHours(0, true, 0, 20);
      return p;
    }, "", "+0-0");
    gains("fetched a minute late", 0, 0, () -> {
      DroverPlan p = nearOther(2, 21, 1440);
      p.setHours(0, true, 0, 20);
      return p;
    });
  }

  private static void moveInItsRoute() {
    // To 2, 1 and 3; the first one belongs behind the second.
    Supplier<DroverPlan> fro = () -> {
      DroverPlan p = at(0);
      visits(p, 2, 1, 3);
      lay(p, 0, "+0-0+1-1+2-2");
      return p;
    };
    gains("into its own route, of 80", 0, 20, fro, "+1-1+0-0+2-2");
    // Job 2 is too late behind the others; its route is right when job 1 is behind it.
    Supplier<DroverPlan> late = () -> {
      DroverPlan p = at(0);
      visits(p, 7, 2, 7);
      lay(p, 0, "+0-0+1-1+2-2");
      p.setHours(2, true, 0, 10);
      due(32, "not right ahead", false, () -> p.isRight(0));
      return p;
    };
    gains("a route that becomes right by it", 0, 20, late, "+0-0+2-2+1-1");
    DroverPlan p = late.get();
    p.change(0);
    due(11, "right behind", true, () -> p.isRight(0));
    gains("a route that could not be right", 0, 0, () -> {
      DroverPlan q = late.get();
      q.setHours(2, true, 0, 9);
      return q;
    });
    gains("only its first stop is set, so job 1 goes behind", 0, 20, () -> {
      DroverPlan q = fro.get();
      q.advance(1);
      return q;
    }, "+0-0+2-2+1-1");
    // From 2 to 0, then from 1 to 2: 80; with job 1 round the first stop 40, behind that 60.
    Supplier<DroverPlan> far = () -> {
      DroverPlan q = at(0);
      q.addJob(2, 0, 1, 0, 0);
      q.addJob(1, 2, 1, 0, 0);
      lay(q, 0, "+0-0+1-1");
      return q;
    };
    gains("ahead of the first stop", 0, 40, far, "+1+0-1-0");
    gains("not ahead of it as it is set, but of the one where its job is brought", 0, 20, () -> {
      DroverPlan q = far.get();
      q.advance(1);
      return q;
    }, "+0+1-1-0");
  }

  /** The route that the job leaves for another one must be right without it. */
  private static void moveOutOfWrongRoute() {
    Supplier<DroverPlan> made = () -> {
      DroverPlan p = at(0, 2);
      visits(p, 2, 1);
      lay(p, 0, "+0-0+1-1");
      return p;
    };
    gains("it is right with and without", 0, 20, made, "+1-1", "+0-0");
    gains("it is not right with, nor without", 0, 0, () -> {
      DroverPlan p = made.get();
      p.setHours(1, true, 0, 9);
      return p;
    });
    gains("it is right without only", 0, 20, () -> {
      DroverPlan p = made.get();
      p.setHours(1, true, 0, 10);
      return p;
    }, "+1-1", "+0-0");
  }

  /** {the job, the vehicle, i, k} */
  private static void moveTies() {
    gains("two jobs gain 20, the second one comes first in the route", 0, 20, () -> {
      DroverPlan p = at(0, 1, 7);
      visits(p, 1, 7);
      lay(p, 0, "+1-1+0-0");
      return p;
    }, "+1-1", "+0-0", "");
    gains("a job gains 20 in its own route, and as much in the next one", 0, 20, () -> {
      DroverPlan p = at(0, 2);
      visits(p, 2, 1, 3);
      lay(p, 0, "+0-0+1-1+2-2");
      return p;
    }, "+1-1+0-0+2-2", "");
    gains("a job gains 20 in its own route, and as much in the one ahead, with a smaller i", 0, 20,
        () -> {
          DroverPlan p = at(2, 0);
          visits(p, 2, 1, 3);
          lay(p, 1, "+0-0+1-1+2-2");
          return p;
        }, "+0-0", "+1-1+2-2");
    gains("a job gains as much at two other vehicles", 0, 40, () -> {
      DroverPlan p = at(0, 2, 2);
      visits(p, 2);
      lay(p, 0, "+0-0");
      return p;
    }, "", "+0-0", "");
    gains("a greater gain of a greater number", 0, 40, () -> {
      DroverPlan p = at(0, 7, 2);
      visits(p, 7, 2);
      lay(p, 0, "+0-0+1-1");
      return p;
    }, "+0-0", "", "+1-1");
    // In the second route job 0 can come at 0 and 1, 0 and 2, 1 and 2, and so on; all gain 40.
    gains("the smallest i, and its smallest k", 0, 40, () -> {
      DroverPlan p = at(0, 2);
      visits(p, 2, 2);
      lay(p, 0, "+0-0");
      lay(p, 1, "+1-1");
      return p;
    }, "", "+0-0+1-1");
  }

  // ---- kind 1: two jobs change places

  /** Job 0 at 1 is carried from 6, job 1 at 5 from 0; as crossed(), with loads and capacities. */
  private static DroverPlan swapped(int capacity, int load, int minutes, int to) {
    DroverPlan p = line();
    p.addVehicle(0, 10, 0, 1440, 1, 0);
    p.addVehicle(6, capacity, 0, 1440, 1, 0);
    p.addJob(1, 1, 1, 0, 0);
    p.addJob(5, 5, load, minutes, 0);
    lay(p, 0, "+1-1");
    lay(p, 1, "+0-0");
    p.setHours(1, true, 0, to);
    return p;
  }

  private static void swapToTheLimits() {
    gains("both the other way round", 1, 160, EdgesChangeKinds::crossed, "+0-0", "+1-1");
    gains("load as the capacity", 1, 160, () -> swapped(4, 4, 0, 1440), "+0-0", "+1-1");
    gains("load one above the capacity", 1, 0, () -> swapped(3, 4, 0, 1440));
    gains("hours that its own route keeps", 1, 160, () -> swapped(9, 4, 0, 50), "+0-0", "+1-1");
    gains("a route that is not right, and is then", 1, 160, () -> swapped(9, 4, 0, 10), "+0-0",
        "+1-1");
    gains("a minute late then", 1, 0, () -> swapped(9, 4, 0, 9));
    // One of both routes is right then, the other one not.
    gains("the first route is not right then", 1, 0, () -> {
      DroverPlan p = swapped(9, 4, 0, 1440);
      p.setHours(0, true, 0, 9);
      return p;
    });
    gains("the first route is right then", 1, 160, () -> {
      DroverPlan p = swapped(9, 4, 0, 1440);
      p.setHours(0, true, 0, 10);
      return p;
    }, "+0-0", "+1-1");
  }

  private static void swapInOneRoute() {
    // Where one was fetched the other one is, where one was brought the other one is.
    gains("one behind the other", 1, 40, () -> {
      DroverPlan p = at(0);
      p.addJob(4, 2, 1, 0, 0);
      p.addJob(2, 4, 1, 0, 0);
      lay(p, 0, "+0+1-0-1");
      return p;
    }, "+1+0-1-0");
    gains("one round the other", 1, 40, () -> {
      DroverPlan q = at(0);
      q.addJob(3, 3, 1, 0, 0);
      q.addJob(1, 5, 1, 0, 0);
      lay(q, 0, "+0+1-1-0");
      return q;
    }, "+1+0-0-1");
    gains("not with an open one", 1, 0, () -> {
      DroverPlan p = at(0);
      visits(p, 5, 1);
      lay(p, 0, "+0-0");
      return p;
    });
  }

  private static void swapOfSetJobs() {
    for (int late = 0; late < 2; late++) {
      int setOne = 1 - late;
      Supplier<DroverPlan> made = () -> {
        DroverPlan p = line();
        p.addVehicle(0, 10, setOne == 1 ? 0 : 100, 1440, 1, 0);
        p.addVehicle(6, 10, setOne == 1 ? 100 : 0, 1440, 1, 0);
        visits(p, 1, 5);
        lay(p, 0, "+1-1");
        lay(p, 1, "+0-0");
        return p;
      };
      gains("none is set", 1, 160, made, "+0-0", "+1-1");
      gains("none is set", 3, 160, made, "+0-0", "+1-1");
      gains("job " + setOne + " is set, the other one is not", 1, 0, () -> {
        DroverPlan p = made.get();
        p.advance(1);
        due(21, "set", true, () -> p.isSet(setOne));
        due(21, "not set", false, () -> p.isSet(1 - setOne));
        return p;
      });
      // Its end can only come behind the other one's, which saves its own 100.
      gains("job " + setOne + " is set, the other one's end is not", 3, 100, () -> {
        DroverPlan p = made.get();
        p.advance(1);
        return p;
      }, setOne == 1 ? "+1-1+0-0" : "", setOne == 1 ? "" : "+0-0+1-1");
    }
  }

  /** {the job with the smaller number, the other one} */
  private static void swapTies() {
    gains("job 2 with 0 or 1", 1, 80, () -> {
      DroverPlan p = at(0, 6);
      visits(p, 5, 5, 1);
      lay(p, 0, "+0-0+1-1");
      lay(p, 1, "+2-2");
      return p;
    }, "+2-2+1-1", "+0-0");
    gains("job 0 with 1 or 2", 1, 80, () -> {
      DroverPlan p = at(0, 6);
      visits(p, 1, 5, 5);
      lay(p, 0, "+1-1+2-2");
      lay(p, 1, "+0-0");
      return p;
    }, "+0-0+2-2", "+1-1");
    gains("a greater gain of greater numbers", 1, 160, () -> {
      DroverPlan p = at(0, 6);
      visits(p, 0, 6, 1, 5);
      lay(p, 0, "+0-0+3-3");
      lay(p, 1, "+1-1+2-2");
      return p;
    }, "+0-0+2-2", "+1-1+3-3");
  }

  // ---- kind 2: stops come in the opposite order

  /** From 3 to 1, and from 2 to 0: 80, or 60 if the second job is fetched ahead. */
  private static DroverPlan turned(int capacity, int load, int due) {
    DroverPlan p = line();
    p.addVehicle(0, capacity, 0, due, 1, 0);
    p.addJob(3, 1, 5, 1, 0);
    p.addJob(2, 0, load, 1, 0);
    lay(p, 0, "+0-0+1-1");
    return p;
  }

  private static void turnToTheLimits() {
    gains("the two in the middle", 2, 20, () -> turned(10, 5, 1440), "+0+1-0-1");
    gains("load one above the capacity", 2, 0, () -> turned(10, 6, 1440));
    // Job 0 is brought at 51, and at 52 with the other one fetched ahead; back at 84, or at 64.
    for (int to = 51; to <= 52; to++) {
      int last = to;
      gains("brought by " + last, 2, last == 52 ? 20 : 0, () -> {
        DroverPlan p = turned(10, 5, 1440);
        p.setHours(0, false, 0, last);
        return p;
      });
    }
    gains("back at the last minute", 2, 20, () -> turned(10, 5, 84), "+0+1-0-1");
    // From 4 and 2 to 5 the nearer one first, and from 5 to 2 and 4 the farther one first.
    gains("the first two stops", 2, 40, () -> {
      DroverPlan p = at(0);
      p.addJob(4, 5, 1, 0, 0);
      p.addJob(2, 5, 1, 0, 0);
      lay(p, 0, "+0+1-0-1");
      return p;
    }, "+1+0-0-1");
    gains("the last two stops", 2, 40, () -> {
      DroverPlan p = at(0);
      p.addJob(5, 2, 1, 0, 0);
      p.addJob(5, 4, 1, 0, 0);
      lay(p, 0, "+0+1-0-1");
      return p;
    }, "+0+1-1-0");
  }

  /** Each job is fetched ahead of being brought, so no part with both stops of one is turned. */
  private static void turnKeepsOrder() {
    // From 3 to 1 and on to 5: the other way round it would be 40 less.
    gains("both stops of a job, side by side", 2, 0, () -> {
      DroverPlan p = at(0);
      p.addJob(3, 1, 1, 0, 0);
      visits(p, 5);
      lay(p, 0, "+0-0+1-1");
      return p;
    });
    // At 3, 2, 1 and 5: the first three turned would save 40, the last two turned save 20.
    gains("both stops of a job with one in between", 2, 20, () -> {
      DroverPlan p = at(0);
      p.addJob(3, 1, 1, 0, 0);
      p.addJob(2, 5, 1, 0, 0);
      lay(p, 0, "+0+1-0-1");
      return p;
    }, "+0+1-1-0");
  }

  private static void turnOfWrongRoute() {
    Supplier<DroverPlan> late = () -> {
      DroverPlan p = turned(10, 5, 1440);
      p.setHours(1, true, 0, 41);
      return p;
    };
    due(32, "not right ahead", false, () -> late.get().isRight(0));
    gains("a route that becomes right by it", 2, 20, late, "+0+1-0-1");
    gains("a route that does not", 2, 0, () -> {
      DroverPlan p = turned(10, 5, 1440);
      p.setHours(1, true, 0, 40);
      return p;
    });
  }

  private static void turnAndSetStops() {
    Supplier<DroverPlan> made = () -> {
      DroverPlan p = at(0);
      p.addJob(4, 5, 1, 0, 0);
      p.addJob(2, 5, 1, 0, 0);
      lay(p, 0, "+0+1-0-1");
      return p;
    };
    gains("not with a stop that is set", 2, 0, () -> {
      DroverPlan p = made.get();
      p.advance(1);
      due(23, "the first one is set", 1, () -> p.setStops(0));
      return p;
    });
    // Both jobs are set; both are still to be brought, the far one first.
    Supplier<DroverPlan> bring = () -> {
      DroverPlan p = at(0);
      p.addJob(5, 2, 1, 1, 0);
      p.addJob(5, 4, 1, 1, 0);
      lay(p, 0, "+0+1-0-1");
      return p;
    };
    gains("the stops at which set jobs are brought", 2, 40, () -> {
      DroverPlan p = bring.get();
      p.advance(52);
      due(23, "two are set", 2, () -> p.setStops(0));
      return p;
    }, "+0+1-1-0");
    gains("a minute later the first of these is set", 2, 0, () -> {
      DroverPlan p = bring.get();
      p.advance(53);
      due(23, "three are set", 3, () -> p.setStops(0));
      return p;
    });
  }

  /** {the vehicle, i, k} */
  private static void turnTies() {
    gains("two routes alike", 2, 40, () -> {
      DroverPlan p = at(0, 0);
      for (int n = 0; n < 2; n++) {
        p.addJob(4, 5, 1, 0, 0);
        p.addJob(2, 5, 1, 0, 0);
      }
      lay(p, 0, "+2+3-2-3");
      lay(p, 1, "+0+1-0-1");
      return p;
    }, "+3+2-2-3", "+0+1-0-1");
    // At 10, 20, 60, 10, 30, 20: from 3 to 4 or to 5, 140 either way.
    gains("the smallest k", 2, 20, () -> {
      DroverPlan p = at(0);
      p.addJob(6, 1, 1, 0, 0);
      p.addJob(2, 2, 1, 0, 0);
      p.addJob(1, 3, 1, 0, 0);
      lay(p, 0, "+2+1+0-0-2-1");
      return p;
    }, "+2+1+0-2-0-1");
    // At 10, 30, 10, 10, 0, 50, 10, 20: from 4 to 7, 5 to 6 or 6 to 7, 160 each way.
    gains("the smallest i, though its k is greater", 2, 20, () -> {
      DroverPlan p = at(0);
      p.addJob(1, 0, 1, 0, 0);
      p.addJob(1, 1, 1, 0, 0);
      p.addJob(1, 2, 1, 0, 0);
      p.addJob(3, 5, 1, 0, 0);
      lay(p, 0, "+1+3+2+0-0-3-1-2");
      return p;
    }, "+1+3+2+0-2-1-3-0");
  }

  // ---- kind 3: two routes change their ends

  private static void endsWholeOrNone() {
    gains("a whole route for none", 3, 40, () -> nearOther(2, 0, 1440), "", "+0-0");
    gains("none for a whole route", 3, 40, () -> {
      DroverPlan p = at(2, 0);
      visits(p, 2);
      lay(p, 1, "+0-0");
      return p;
    }, "+0-0", "");
    gains("both whole routes", 3, 160, EdgesChangeKinds::crossed, "+0-0", "+1-1");
    gains("an end of the first one only", 3, 60, () -> {
      DroverPlan p = at(0, 4);
      visits(p, 1, 4);
      lay(p, 0, "+0-0+1-1");
      return p;
    }, "+0-0", "+1-1");
    gains("an end of the second one only", 3, 60, () -> {
      DroverPlan p = at(4, 0);
      visits(p, 1, 4);
      lay(p, 1, "+0-0+1-1");
      return p;
    }, "+1-1", "+0-0");
    gains("an end of each", 3, 200, () -> {
      DroverPlan p = at(0, 6);
      visits(p, 1, 6, 5, 0);
      lay(p, 0, "+0-0+1-1");
      lay(p, 1, "+2-2+3-3");
      return p;
    }, "+0-0+3-3", "+2-2+1-1");
  }

  /** Each job has both its stops in one route then. */
  private static void endsSplitNoJob() {
    gains("where it is brought cannot go alone, from the first one", 3, 0, () -> {
      DroverPlan p = at(0);
      p.addVehicle(5, 1, 0, 1440, 1, 0);
      p.addJob(1, 5, 2, 0, 0);
      lay(p, 0, "+0-0");
      return p;
    });
    gains("where it is brought cannot go alone, from the second one", 3, 0, () -> {
      DroverPlan p = line();
      p.addVehicle(5, 1, 0, 1440, 1, 0);
      p.addVehicle(0, 10, 0, 1440, 1, 0);
      p.addJob(1, 5, 2, 0, 0);
      lay(p, 1, "+0-0");
      return p;
    });
    // Job 0 goes round job 1; the end that is brought near vehicle 1 cannot go without the rest.
    gains("a job round another one", 3, 0, () -> {
      DroverPlan p = at(0);
      p.addVehicle(5, 2, 0, 1440, 1, 0);
      p.addJob(1, 5, 2, 0, 0);
      p.addJob(5, 5, 2, 0, 0);
      lay(p, 0, "+0+1-1-0");
      return p;
    });
    gains("behind it both can", 3, 100, () -> {
      DroverPlan p = at(0);
      p.addVehicle(6, 2, 0, 1440, 1, 0);
      p.addJob(1, 1, 3, 0, 0);
      p.addJob(6, 6, 2, 0, 0);
      lay(p, 0, "+0-0+1-1");
      return p;
    }, "+0-0", "+1-1");
  }

  private static void endsToTheLimits() {
    gains("load one above the capacity", 3, 0, () -> nearOther(1, 0, 1440));
    gains("back at the last minute", 3, 40, () -> nearOther(2, 10, 16), "", "+0-0");
    gains("back a minute late", 3, 0, () -> nearOther(2, 10, 15));
    // The end of vehicle 1, at home of vehicle 0, would be a minute late there.
    for (int late = 0; late < 2; late++) {
      int last = 10 - late;
      gains("begun at " + last + " at the latest", 3, late == 0 ? 160 : 0, () -> {
        DroverPlan p = crossed();
        p.setHours(0, true, 0, last);
        return p;
      });
      gains("begun there at " + last + " at the latest", 3, late == 0 ? 160 : 0, () -> {
        DroverPlan p = crossed();
        p.setHours(1, true, 0, last);
        return p;
      });
    }
  }

  private static void endsAndSetStops() {
    // Job 0 is set; job 1 behind it can go, and does so at the clock 10, not later.
    Supplier<DroverPlan> made = () -> {
      DroverPlan p = at(0);
      p.addVehicle(5, 10, 1000, 1440, 1, 0);
      p.addJob(1, 1, 1, 0, 0);
      p.addJob(5, 5, 1, 0, 0);
      lay(p, 0, "+0-0+1-1");
      return p;
    };
    gains("the whole end behind", 3, 80, made, "+0-0", "+1-1");
    gains("behind the stops that are set", 3, 80, () -> {
      DroverPlan p = made.get();
      p.advance(10);
      due(23, "one is set", 1, () -> p.setStops(0));
      return p;
    }, "+0-0", "+1-1");
    gains("a stop of it is set", 3, 0, () -> {
      DroverPlan p = made.get();
      p.advance(11);
      due(23, "three are set", 3, () -> p.setStops(0));
      return p;
    });
  }

  /** {the vehicle with the smaller number, the other one, i in the first one, k in the second} */
  private static void endsTies() {
    gains("the second or the third vehicle", 3, 40, () -> {
      DroverPlan p = at(0, 2, 2);
      visits(p, 2);
      lay(p, 0, "+0-0");
      return p;
    }, "", "+0-0", "");
    // Each vehicle has time for one of both only.
    gains("from the first or the second vehicle to the third", 3, 40, () -> {
      DroverPlan p = at(0, 0, 2);
      for (int job = 0; job < 2; job++) {
        p.addJob(2, 2, 1, 5, 0);
        p.setHours(job, true, 20, 20);
      }
      lay(p, 0, "+1-1");
      lay(p, 1, "+0-0");
      return p;
    }, "", "+0-0", "+1-1");
    gains("from the third one to the first or the second", 3, 40, () -> {
      DroverPlan p = at(2, 2, 0);
      visits(p, 2);
      lay(p, 2, "+0-0");
      return p;
    }, "+0-0", "", "");
    // A job at 30 costs as much from 0 as from 60.
    gains("with the job at 30, or without it: the smallest i", 3, 60, () -> {
      DroverPlan p = at(0, 6);
      visits(p, 3, 6);
      lay(p, 0, "+0-0+1-1");
      return p;
    }, "", "+0-0+1-1");
    gains("with the job at 30, or without it: the smallest k", 3, 60, () -> {
      DroverPlan p = at(0, 6);
      visits(p, 3, 0);
      lay(p, 1, "+0-0+1-1");
      return p;
    }, "+0-0+1-1", "");
    gains("i 0 and k 2, or i 2 and k 0: the smallest i", 3, 180, () -> {
      DroverPlan p = at(0, 6);
      visits(p, 3, 6, 3, 0);
      lay(p, 0, "+0-0+1-1");
      lay(p, 1, "+2-2+3-3");
      return p;
    }, "+3-3", "+2-2+0-0+1-1");
  }

  // ---- what all kinds keep

  /** Only the routes that are changed must be right. */
  private static void otherRoutesNotRight() {
    gains("next to a route that is not right", 0, 100, () -> withWrongRoute(crossed(), 2), "+0-0+1-1",
        "", "+2-2");
    gains("next to a route that is not right", 1, 160, () -> withWrongRoute(crossed(), 2), "+0-0",
        "+1-1", "+2-2");
    gains("next to a route that is not right", 2, 20, () -> withWrongRoute(turned(10, 5, 1440), 1),
        "+0+1-0-1", "+2-2");
    gains("next to a route that is not right", 3, 160, () -> withWrongRoute(crossed(), 2), "+0-0",
        "+1-1", "+2-2");
  }

  /** With one more vehicle, and job 2 in its route, which it cannot fetch in time. */
  private static DroverPlan withWrongRoute(DroverPlan p, int vehicle) {
    p.addVehicle(0, 10, 0, 1440, 1, 0);
    visits(p, 1);
    lay(p, vehicle, "+2-2");
    p.setHours(2, true, 0, 9);
    due(32, "not right", false, () -> p.isRight(vehicle));
    return p;
  }

  /** Nothing comes into a route whose vehicle has left its home or its last stop below the clock. */
  private static void nothingComesIn() {
    for (int later = 0; later < 2; later++) {
      int clock = 5 + later;
      for (int kind = 0; kind < 4; kind += 3) {
        gains("home is left at 5, the clock is " + clock, kind, later == 0 ? 40 : 0, () -> {
          DroverPlan p = line();
          p.addVehicle(0, 10, 100, 1440, 1, 0);
          p.addVehicle(2, 10, 5, 1440, 1, 0);
          visits(p, 2);
          lay(p, 0, "+0-0");
          p.advance(clock);
          return p;
        });
        gains("the last stop is left at 5, the clock is " + clock, kind, later == 0 ? 40 : 0,
            () -> {
              DroverPlan p = line();
              p.addVehicle(0, 10, 100, 1440, 1, 0);
              p.addVehicle(2, 10, 0, 1440, 1, 0);
              visits(p, 2);
              p.addJob(2, 2, 1, 0, 0);
              p.setHours(1, false, 5, 5);
              lay(p, 0, "+0-0");
              lay(p, 1, "+1-1");
              p.advance(clock);
              due(23, "all its stops are set", 2, () -> p.setStops(1));
              return p;
            });
      }
    }
  }

  // ---- 12: improve

  /**
   * Vehicles at 0, 2 and 4, each with a job at another one's home. Job 0 goes home from 4, which
   * saves 80; then job 1 saves 40 with the second vehicle, and job 2 as much with the third one.
   */
  private static DroverPlan threeSteps() {
    DroverPlan p = at(0, 2, 4);
    visits(p, 0, 2, 4);
    lay(p, 0, "+1-1");
    lay(p, 1, "+2-2");
    lay(p, 2, "+0-0");
    return p;
  }

  private static void improveAtMost() {
    int[] sums = {80, 120, 160, 160, 160, 160, 160, 160, 160, 160};
    String[][] rows = {{"+0-0+1-1", "+2-2", ""}, {"+0-0", "+1-1+2-2", ""}, {"+0-0", "+1-1", "+2-2"}};
    DroverPlan steps = threeSteps();
    for (int most = 1; most <= 10; most++) {
      int m = most;
      DroverPlan p = threeSteps();
      due(12, "at most " + m + ": the sum of their gains", sums[m - 1], () -> p.improve(m));
      due(12, "at most " + m + ": the cost", 160 - sums[m - 1], () -> p.cost());
      for (int n = 0; n < 3; n++) {
        int v = n;
        due(12, "at most " + m + ": route " + v, rows[Math.min(m, 3) - 1][v], () -> row(p, v));
      }
      due(12, "one change", sums[m - 1] - (m > 1 ? sums[m - 2] : 0), () -> steps.improve(1));
      due(12, "one after the other, as all at once", told(steps), () -> told(p));
    }
    idle(12, "no more", 0, () -> {
      DroverPlan p = threeSteps();
      p.improve(3);
      return p;
    }, p -> p.improve(10));
  }

  private static void improveKinds() {
    DroverPlan p = steps(2);
    due(38, "kind 0", 2, () -> p.gain(0));
    due(38, "kind 1", 2, () -> p.gain(1));
    due(12, "the smallest kind of 0 and 1", 2, () -> p.improve(10));
    due(12, "as kind 0 does it", "+0+1-1-0", () -> row(p, 0));

    // Job 2 at 30 costs as much from 0 as from 60, so it can stay, or go with job 1.
    DroverPlan q = at(0, 6);
    visits(q, 1, 5, 3);
    lay(q, 0, "+1-1+2-2");
    lay(q, 1, "+0-0");
    due(38, "kind 0", 100, () -> q.gain(0));
    due(38, "kind 1", 120, () -> q.gain(1));
    due(38, "kind 2", 0, () -> q.gain(2));
    due(38, "kind 3", 120, () -> q.gain(3));
    due(12, "the smallest kind of 1 and 3", 120, () -> q.improve(1));
    due(12, "as kind 1 does it", "+0-0+2-2", () -> row(q, 0));

    // Kind 3 alone takes both jobs of the dear vehicle at once.
    DroverPlan r = dearVehicle();
    due(12, "the greatest kind", 50, () -> r.improve(10));
    due(12, "as kind 3 does it", "+0-0+1-1", () -> row(r, 1));
  }

  /** All numbers at their greatest: 12 places, 3 vehicles, 9 jobs, 18 stops. */
  private static void fullHouseChanges() {
    Supplier<DroverPlan> apart = () -> {
      DroverPlan p = fullHouse();
      for (int n = 0; n < 9; n++) {
        p.insertAt(n, 2, 2 * n, 2 * n + 1);
      }
      return p;
    };
    // Vehicle 2 costs 2 for being used, vehicle 0 nothing, but for the last job nothing is saved.
    gains("one of nine", 0, 0, apart);
    gains("two of nine alike", 1, 0, apart);
    gains("18 stops", 2, 0, apart);
    gains("all 18 stops go to the first vehicle", 3, 2, apart,
        "+0-0+1-1+2-2+3-3+4-4+5-5+6-6+7-7+8-8", "", "");
    due(12, "all of them", 2, () -> apart.get().improve(10));
  }
}

import java.util.LinkedHashMap;
import java.util.Map;
import java.util.NoSuchElementException;

/** Promises 9 to 36, on both sides of every boundary that their sentences name. */
public final class BoundsOfAnswersTest {
  private static final Class<IndexOutOfBoundsException> INDEX = IndexOutOfBoundsException.class;
  private static final Class<IllegalArgumentException> ARGUMENT = IllegalArgumentException.class;
  private static final Class<NoSuchElementException> NONE = NoSuchElementException.class;
  private static final int[] NO_PASSENGERS = {-1, 12, Integer.MIN_VALUE, Integer.MAX_VALUE};

  private BoundsOfAnswersTest() {
  }

  interface Asked {
    int about(LiftGroup group, int index);
  }

  public static void main(String[] args) {
    ofCars();
    ofPassengers();
    time();
    endsOfTheBuilding();
    loadsAndRiders();
    energyInitially();
    isStop();
    stopCount();
    nextStop();
    waitingTime();
    carOf();
    waitingAt();
    estimates();
    bestCarArguments();
    bestCarWithoutRoom();
    stepsUntilBoarding();
    stepsUntilArrival();
    tripsWithin();
    Checks.end();
  }

  private static int asInt(boolean answer) {
    return answer ? 1 : 0;
  }

  private static Map<String, Asked> carQueries() {
    Map<String, Asked> queries = new LinkedHashMap<>();
    queries.put("floor", LiftGroup::floor);
    queries.put("direction", LiftGroup::direction);
    queries.put("capacity", LiftGroup::capacity);
    queries.put("load", LiftGroup::load);
    queries.put("passengersIn", LiftGroup::passengersIn);
    queries.put("assignedTo", LiftGroup::assignedTo);
    queries.put("doorSteps", LiftGroup::doorSteps);
    queries.put("isInService", (g, car) -> asInt(g.isInService(car)));
    queries.put("energy", LiftGroup::energy);
    queries.put("isStop 0", (g, car) -> asInt(g.isStop(car, 0)));
    queries.put("isStop 4", (g, car) -> asInt(g.isStop(car, 4)));
    queries.put("isStop 9", (g, car) -> asInt(g.isStop(car, 9)));
    queries.put("stopCount", LiftGroup::stopCount);
    queries.put("estimate 0", (g, car) -> g.estimate(car, 0));
    queries.put("estimate 9", (g, car) -> g.estimate(car, 9));
    queries.put("estimateByWalk 0", (g, car) -> g.estimateByWalk(car, 0));
    queries.put("estimateByWalk 9", (g, car) -> g.estimateByWalk(car, 9));
    return queries;
  }

  private static void ofCars() {
    Map<String, int[]> due = new LinkedHashMap<>();
    due.put("floor", new int[] {1, 0, 0});
    due.put("direction", new int[] {0, 0, 0});
    due.put("capacity", new int[] {200, 400, 100});
    due.put("load", new int[] {150, 0, 0});
    due.put("passengersIn", new int[] {1, 0, 0});
    due.put("assignedTo", new int[] {1, 0, 0});
    due.put("doorSteps", new int[] {1, 0, 0});
    due.put("isInService", new int[] {1, 0, 1});
    due.put("energy", new int[] {6, 0, 0});
    due.put("isStop 0", new int[] {0, 0, 0});
    due.put("isStop 4", new int[] {1, 0, 0});
    due.put("isStop 9", new int[] {1, 0, 0});
    due.put("stopCount", new int[] {2, 0, 0});
    due.put("estimate 0", new int[] {2, 0, 0});
    due.put("estimate 9", new int[] {9, 9, 9});
    due.put("estimateByWalk 0", new int[] {2, 0, 0});
    due.put("estimateByWalk 9", new int[] {9, 9, 9});
    carQueries().forEach((name, asked) -> {
      for (int car = 0; car < 3; car++) {
        Checks.same(name + " of car " + car, asked.about(Scenes.rich(), car), due.get(name)[car]);
      }
      for (int car : Scenes.NO_CARS) {
        Checks.refusedAlways(name + " of car " + car, INDEX, g -> asked.about(g, car));
      }
    });
    for (int car : Scenes.NO_CARS) {
      Checks.refusedAlways("nextStop of car " + car, INDEX, g -> g.nextStop(car));
    }
  }

  private static Map<String, Asked> passengerQueries() {
    Map<String, Asked> queries = new LinkedHashMap<>();
    queries.put("number", LiftGroup::number);
    queries.put("start", LiftGroup::start);
    queries.put("destination", LiftGroup::destination);
    queries.put("weight", LiftGroup::weight);
    queries.put("waitingTime", LiftGroup::waitingTime);
    queries.put("isInCar", (g, passenger) -> asInt(g.isInCar(passenger)));
    queries.put("stepsUntilBoarding", LiftGroup::stepsUntilBoarding);
    queries.put("stepsUntilArrival", LiftGroup::stepsUntilArrival);
    return queries;
  }

  private static void ofPassengers() {
    Map<String, int[]> due = new LinkedHashMap<>();
    due.put("number", new int[] {3, 4, 5});
    due.put("start", new int[] {1, 4, 4});
    due.put("destination", new int[] {9, 2, 2});
    due.put("weight", new int[] {150, 50, 101});
    due.put("waitingTime", new int[] {1, 1, 1});
    due.put("isInCar", new int[] {1, 0, 0});
    // Car 0 closes, reaches 4 and opens at step 5, 9 at step 13, 4 again at step 21 and 2 at step 26.
    due.put("stepsUntilBoarding", new int[] {0, 5, 21});
    due.put("stepsUntilArrival", new int[] {13, 26, 26});
    passengerQueries().forEach((name, asked) -> {
      for (int passenger = 0; passenger < 3; passenger++) {
        Checks.same(name + " " + passenger, asked.about(Scenes.rich(), passenger), due.get(name)[passenger]);
      }
      noPassenger(name, asked);
    });
    noPassenger("carOf", LiftGroup::carOf);
    Checks.same("passengerCount", new LiftGroup().passengerCount(), 0);
    Checks.same("passengerCount", Scenes.rich().passengerCount(), 3);
    Checks.same("passengerCount", Scenes.full().passengerCount(), 12);
    Checks.same("the first of twelve", Scenes.full().number(0), 1);
    Checks.same("the last of twelve", Scenes.full().number(11), 12);
  }

  private static void noPassenger(String name, Asked asked) {
    for (int passenger : NO_PASSENGERS) {
      Checks.refusedAlways(name + " " + passenger, INDEX, g -> asked.about(g, passenger));
    }
    Checks.refused(name + " of none", INDEX, LiftGroup::new, g -> asked.about(g, 0));
    Checks.refused(name + " when all have left", INDEX, () -> Scenes.trips(12), g -> asked.about(g, 0));
    Checks.refused(name + " behind the only one", INDEX, () -> Scenes.waiting(1), g -> asked.about(g, 1));
    Checks.refused(name + " behind the last of three", INDEX, Scenes::rich, g -> asked.about(g, 3));
    Checks.refused(name + " behind the last of eleven", INDEX, () -> Scenes.waiting(11), g -> asked.about(g, 11));
  }

  private static void time() {
    LiftGroup group = new LiftGroup();
    Checks.same("time", group.time(), 0);
    for (int i = 1; i <= 200; i++) {
      group.advance(30);
      Checks.same("time", group.time(), 30 * i);
    }
  }

  private static void endsOfTheBuilding() {
    LiftGroup group = Scenes.oneCar();
    group.addPassenger(9, 0, 10);
    for (int step = 1; step <= 9; step++) {
      group.advance(1);
      Checks.same("one floor a step", group.floor(0), step);
      Checks.same("upwards", group.direction(0), 1);
    }
    group.advance(3);
    Checks.same("it stands at the top", group.floor(0), 9);
    Checks.same("still upwards", group.direction(0), 1);
    for (int step = 1; step <= 9; step++) {
      group.advance(1);
      Checks.same("one floor a step", group.floor(0), 9 - step);
      Checks.same("downwards", group.direction(0), -1);
    }
    group.advance(3);
    Checks.same("it stands at the bottom", group.floor(0), 0);
    Checks.same("still downwards", group.direction(0), -1);
    group.advance(1);
    Checks.same("it stays at the bottom", group.floor(0), 0);
    Checks.same("idle", group.direction(0), 0);
  }

  private static void loadsAndRiders() {
    Checks.same("nobody", new LiftGroup().load(0), 0);
    Checks.same("the lightest", Scenes.boarded(10).load(0), 10);
    LiftGroup heaviest = Scenes.heaviest();
    Checks.same("the heaviest", heaviest.load(0), 900);
    Checks.same("six", heaviest.passengersIn(0), 6);
    heaviest.advance(12);
    Checks.same("they have left", heaviest.load(0), 0);
    Checks.same("they have left", heaviest.passengersIn(0), 0);
    LiftGroup twelve = Scenes.full();
    Checks.same("twelve wait", twelve.assignedTo(0), 12);
    Checks.same("none is in it", twelve.passengersIn(0), 0);
    twelve.advance(2);
    Checks.same("none waits", twelve.assignedTo(0), 0);
    Checks.same("twelve are in it", twelve.passengersIn(0), 12);
    Checks.same("their weight", twelve.load(0), 120);
  }

  private static void energyInitially() {
    LiftGroup group = new LiftGroup();
    group.advance(30);
    Checks.same("idle cars take none", group.totalEnergy(), 0);
    group.addPassenger(0, 1, 10);
    group.advance(1);
    Checks.same("an opening", group.energy(0), 1);
    group.advance(2);
    Checks.same("closing takes none", group.energy(0), 1);
    group.advance(1);
    Checks.same("a floor up", group.energy(0), 3);
    Checks.same("of one car alone", group.energy(1) + group.energy(2), 0);
  }

  private static void isStop() {
    LiftGroup ends = new LiftGroup();
    ends.addPassenger(0, 5, 10);
    ends.addPassenger(9, 5, 10);
    Checks.yes("the lowest floor", ends.isStop(0, 0));
    Checks.yes("next to it", !ends.isStop(0, 1));
    Checks.yes("next to the highest", !ends.isStop(0, 8));
    Checks.yes("the highest floor", ends.isStop(0, 9));
    Checks.yes("the destination of one who waits", !ends.isStop(0, 5));
    ends.advance(1);
    Checks.yes("the start of one who boarded", !ends.isStop(0, 0));
    Checks.yes("the destination of one who boarded", ends.isStop(0, 5));
    Checks.yes("of another car", !ends.isStop(1, 9));
    // A shift by 32 more is the same shift.
    for (int floor : new int[] {-1, 10, 32, 41, -32, Integer.MIN_VALUE, Integer.MAX_VALUE}) {
      Checks.refusedAlways("isStop of floor " + floor, ARGUMENT, g -> g.isStop(0, floor));
      Checks.refusedAlways("isStop of floor " + floor, ARGUMENT, g -> g.isStop(2, floor));
    }
    for (int car : Scenes.NO_CARS) {
      for (int floor : Scenes.NO_FLOORS) {
        Checks.refusedAlways("isStop, neither", INDEX, g -> g.isStop(car, floor));
        Checks.refusedAlways("estimate, neither", INDEX, g -> g.estimate(car, floor));
        Checks.refusedAlways("estimateByWalk, neither", INDEX, g -> g.estimateByWalk(car, floor));
      }
    }
  }

  private static LiftGroup everywhere() {
    LiftGroup group = Scenes.oneCar();
    for (int floor = 0; floor < 10; floor++) {
      group.addPassenger(floor, floor == 0 ? 9 : 0, 10);
    }
    return group;
  }

  private static void stopCount() {
    Checks.same("none", new LiftGroup().stopCount(0), 0);
    Checks.same("twelve on one floor", Scenes.full().stopCount(0), 1);
    LiftGroup group = everywhere();
    Checks.same("every floor", group.stopCount(0), 10);
    for (int floor = 0; floor < 10; floor++) {
      Checks.yes("every floor", group.isStop(0, floor));
    }
    group.advance(1);
    Checks.same("a start and a destination on one floor", group.stopCount(0), 9);
  }

  private static void nextStop() {
    for (int car = 0; car < 3; car++) {
      int without = car;
      Checks.refused("no stops", NONE, LiftGroup::new, g -> g.nextStop(without));
    }
    Checks.refused("no stops", NONE, Scenes::full, g -> g.nextStop(1));
    Checks.refused("no stops left", NONE, () -> Scenes.trips(3), g -> g.nextStop(0));
    Checks.same("one stop", Scenes.full().nextStop(0), 1);
    Checks.same("its own floor before any other", everywhere().nextStop(0), 0);
    LiftGroup top = Scenes.idleAt(9);
    top.addPassenger(0, 5, 10);
    Checks.same("from the top to the bottom", top.nextStop(0), 0);
    top.addPassenger(9, 5, 10);
    Checks.same("its own floor", top.nextStop(0), 9);
    LiftGroup bottom = Scenes.oneCar();
    bottom.addPassenger(9, 5, 10);
    Checks.same("from the bottom to the top", bottom.nextStop(0), 9);
    bottom.addPassenger(1, 5, 10);
    Checks.same("the nearest", bottom.nextStop(0), 1);
    LiftGroup middle = Scenes.idleAt(5);
    middle.addPassenger(3, 5, 10);
    Checks.same("the only one", middle.nextStop(0), 3);
    middle.addPassenger(7, 5, 10);
    Checks.same("up if equally near", middle.nextStop(0), 7);
    middle.addPassenger(4, 5, 10);
    Checks.same("down if nearer by one", middle.nextStop(0), 4);
    middle.addPassenger(6, 5, 10);
    Checks.same("up if equally near", middle.nextStop(0), 6);
  }

  private static void waitingTime() {
    LiftGroup group = new LiftGroup();
    group.addPassenger(1, 2, 10);
    Checks.same("initially", group.waitingTime(0), 0);
    group.advance(1);
    Checks.same("a step", group.waitingTime(0), 1);
    group.advance(1);
    Checks.yes("boarded", group.isInCar(0));
    Checks.same("the step of boarding counts", group.waitingTime(0), 2);
    group.advance(1);
    Checks.same("it stays in a car", group.waitingTime(0), 2);
    LiftGroup forever = Scenes.noCar();
    forever.addPassenger(1, 2, 10);
    for (int i = 0; i < 10; i++) {
      forever.advance(30);
    }
    Checks.same("it has no upper bound", forever.waitingTime(0), 300);
  }

  private static void carOf() {
    Checks.same("in a car", Scenes.rich().carOf(0), 0);
    Checks.same("assigned to it", Scenes.rich().carOf(1), 0);
    Checks.refused("assigned to no car", NONE, Scenes::rich, g -> g.carOf(2));
    LiftGroup last = Scenes.allOpen();
    Checks.same("the last car", last.carOf(0), 2);
    Checks.same("the first car", last.carOf(2), 0);
    last.stopCar(2);
    Checks.same("in a stopped car", last.carOf(0), 2);
    LiftGroup full = Scenes.full();
    Checks.same("the last of twelve", full.carOf(11), 0);
    Checks.refused("of a stopped car", NONE, () -> stopped(Scenes.full()), g -> g.carOf(11));
  }

  private static LiftGroup stopped(LiftGroup group) {
    group.stopCar(0);
    return group;
  }

  private static void waitingAt() {
    for (int floor = 0; floor < 10; floor++) {
      Checks.same("none", new LiftGroup().waitingAt(floor), 0);
      Checks.same("one on each", everywhere().waitingAt(floor), 1);
      Checks.same("twelve on one", Scenes.full().waitingAt(floor), floor == 1 ? 12 : 0);
      Checks.same("assigned or not", Scenes.rich().waitingAt(floor), floor == 4 ? 2 : 0);
    }
    for (int floor : Scenes.NO_FLOORS) {
      Checks.refusedAlways("waitingAt " + floor, ARGUMENT, g -> g.waitingAt(floor));
    }
  }

  private static void estimates() {
    for (int car = 0; car < 3; car++) {
      int of = car;
      for (int floor : Scenes.NO_FLOORS) {
        Checks.refusedAlways("estimate for " + floor, ARGUMENT, g -> g.estimate(of, floor));
        Checks.refusedAlways("estimateByWalk for " + floor, ARGUMENT, g -> g.estimateByWalk(of, floor));
      }
    }
    LiftGroup stopped = Scenes.noCar();
    Checks.same("out of service", stopped.estimate(2, 9), 9);
    Checks.same("out of service", stopped.estimateByWalk(2, 9), 9);
    Checks.same("twelve in the car", crowded().estimate(0, 9), 12 + 8);
    Checks.same("twelve in the car", crowded().estimateByWalk(0, 9), 12 + 8);
  }

  private static LiftGroup crowded() {
    LiftGroup group = Scenes.full();
    group.advance(2);
    return group;
  }

  private static void bestCarArguments() {
    for (int floor : new int[] {0, 9}) {
      for (int weight : new int[] {10, 150}) {
        Checks.same("bestCar", new LiftGroup().bestCar(floor, weight), 0);
      }
      for (int weight : new int[] {9, 151, Integer.MIN_VALUE, Integer.MAX_VALUE}) {
        Checks.refusedAlways("weight " + weight, ARGUMENT, g -> g.bestCar(floor, weight));
        Checks.refused("weight " + weight, ARGUMENT, Scenes::noCar, g -> g.bestCar(floor, weight));
      }
    }
    for (int floor : Scenes.NO_FLOORS) {
      for (int weight : new int[] {9, 10, 150, 151}) {
        Checks.refusedAlways("floor " + floor, ARGUMENT, g -> g.bestCar(floor, weight));
        Checks.refused("floor " + floor, ARGUMENT, Scenes::noCar, g -> g.bestCar(floor, weight));
      }
    }
    Checks.same("also for a thirteenth", Scenes.full().bestCar(1, 150), 0);
  }

  private static void bestCarWithoutRoom() {
    // Car 0 has room for 50 kilograms, car 1 is out of service, car 2 has room for 100; both are as near.
    Checks.same("as much as the capacity of car 0", Scenes.rich().bestCar(4, 50), 0);
    Checks.same("one kilogram more", Scenes.rich().bestCar(4, 51), 2);
    Checks.same("as much as the capacity of car 2", Scenes.rich().bestCar(4, 100), 2);
    Checks.refused("one kilogram more", NONE, Scenes::rich, g -> g.bestCar(4, 101));
    Checks.same("one floor nearer", Scenes.rich().bestCar(3, 50), 0);
    Checks.same("one of the passengers in it", Scenes.rich().bestCar(0, 50), 2);
    Checks.refused("no car in service", NONE, Scenes::noCar, g -> g.bestCar(0, 10));
    Checks.refused("no room left", NONE, Scenes::heaviest, g -> g.bestCar(0, 10));
  }

  private static LiftGroup queueInCar() {
    return Scenes.queue(1);
  }

  private static void stepsUntilBoarding() {
    Checks.same("the next step", Scenes.queue(0).stepsUntilBoarding(0), 1);
    Checks.same("in a car now", queueInCar().stepsUntilBoarding(0), 0);
    // Number 9 boards at step 97; its index is 8 until number 1 leaves at step 7.
    Checks.refused("91 steps", NONE, () -> Scenes.queue(6), g -> g.stepsUntilBoarding(8));
    Checks.same("90 steps", Scenes.queue(7).stepsUntilBoarding(7), 90);
    Checks.same("89 steps", Scenes.queue(8).stepsUntilBoarding(7), 89);
    Checks.refused("no car", NONE, BoundsOfAnswersTest::nobodyComes, g -> g.stepsUntilBoarding(0));
    Checks.same("in a stopped car", stopped(queueInCar()).stepsUntilBoarding(0), 0);
    unchanged(LiftGroup::stepsUntilBoarding);
  }

  private static LiftGroup nobodyComes() {
    LiftGroup group = Scenes.noCar();
    group.addPassenger(3, 4, 80);
    return group;
  }

  private static void stepsUntilArrival() {
    Checks.same("the next step", Scenes.queue(6).stepsUntilArrival(0), 1);
    // Number 8 arrives at step 91.
    Checks.refused("91 steps", NONE, () -> Scenes.queue(0), g -> g.stepsUntilArrival(7));
    Checks.same("90 steps", Scenes.queue(1).stepsUntilArrival(7), 90);
    Checks.same("89 steps", Scenes.queue(2).stepsUntilArrival(7), 89);
    Checks.refused("no car", NONE, BoundsOfAnswersTest::nobodyComes, g -> g.stepsUntilArrival(0));
    Checks.refused("in a stopped car", NONE, () -> stopped(queueInCar()), g -> g.stepsUntilArrival(0));
    unchanged(LiftGroup::stepsUntilArrival);
  }

  private static void tripsWithin() {
    Checks.same("no steps", Scenes.queue(6).tripsWithin(0), 0);
    Checks.same("one step", Scenes.queue(6).tripsWithin(1), 1);
    Checks.same("a step before the trip", Scenes.queue(5).tripsWithin(1), 0);
    // The eighth trip is at step 91.
    Checks.same("90 steps", Scenes.queue(0).tripsWithin(90), 7);
    Checks.same("90 steps", Scenes.queue(1).tripsWithin(90), 8);
    Checks.same("89 steps", Scenes.queue(1).tripsWithin(89), 7);
    Checks.same("more than the log remembers", Scenes.full().tripsWithin(90), 12);
    for (int steps : new int[] {-1, 91, Integer.MIN_VALUE, Integer.MAX_VALUE}) {
      Checks.refusedAlways("tripsWithin " + steps, ARGUMENT, g -> g.tripsWithin(steps));
    }
    unchanged((group, index) -> group.tripsWithin(90));
  }

  /** A prediction does not change the state, nor what undo and restore go back to. */
  private static void unchanged(Asked prediction) {
    LiftGroup read = Scenes.rich();
    String before = Checks.portrait(read) + Checks.asides(read);
    prediction.about(read, 1);
    Checks.same("the state after a prediction", Checks.portrait(read) + Checks.asides(read), before);
    LiftGroup used = Scenes.rich();
    prediction.about(used, 1);
    Checks.same("history and snapshot", Checks.past(used), Checks.past(Scenes.rich()));
    Checks.same("it goes on alike", read.advance(30), Scenes.rich().advance(30));
  }
}

/** Promises 1 to 8, on both sides of every boundary that their sentences name. */
public final class BoundsOfChangesTest {
  private static final Class<IndexOutOfBoundsException> INDEX = IndexOutOfBoundsException.class;
  private static final Class<IllegalArgumentException> ARGUMENT = IllegalArgumentException.class;
  private static final Class<IllegalStateException> STATE = IllegalStateException.class;
  private static final Class<UnsupportedOperationException> UNSUPPORTED = UnsupportedOperationException.class;
  private static final int[] NO_WEIGHTS = {9, 151, 0, -10, Integer.MIN_VALUE, Integer.MAX_VALUE};
  private static final int[] NO_PASSENGERS = {-1, 12, Integer.MIN_VALUE, Integer.MAX_VALUE};

  private BoundsOfChangesTest() {
  }

  public static void main(String[] args) {
    newObject();
    addPassengerFloors();
    addPassengerWeights();
    twelvePassengers();
    assignedWithinCapacity();
    assignedToLowestEstimate();
    removePassenger();
    removePassengerInCar();
    holdDoors();
    holdDoorsClosed();
    stopCar();
    startCar();
    setCapacity();
    setCapacityOfLoadedCar();
    advance();
    Checks.end();
  }

  private static void newObject() {
    Checks.same("nothing is there", Checks.portrait(new LiftGroup()), "time 0"
        + "; car 0 0 400 0 0 0 0 true 0 0; car 0 0 400 0 0 0 0 true 0 0; car 0 0 400 0 0 0 0 true 0 0"
        + "; trips 0; moves 0 0 0 0 0; log");
    Checks.same("nor beside the state", Checks.asides(new LiftGroup()), "; output ; error -1; failed -1");
    Checks.same("the script buffer", Checks.bufferLength(new LiftGroup()), 0);
    for (int car = 0; car < 3; car++) {
      for (int floor = 0; floor < 10; floor++) {
        Checks.same("estimate", new LiftGroup().estimate(car, floor), floor);
        Checks.yes("no stop", !new LiftGroup().isStop(car, floor));
        Checks.same("waitingAt", new LiftGroup().waitingAt(floor), 0);
      }
    }
    Checks.same("tripsWithin", new LiftGroup().tripsWithin(90), 0);
    Checks.refused("undo", STATE, LiftGroup::new, g -> g.undo());
    Checks.refused("restore", STATE, LiftGroup::new, g -> g.restore());
  }

  private static void addPassengerFloors() {
    for (int start = 0; start < 10; start++) {
      for (int destination = 0; destination < 10; destination++) {
        int from = start;
        int to = destination;
        if (from == to) {
          Checks.refusedAlways("both floors " + from, ARGUMENT, g -> g.addPassenger(from, to, 80));
        } else {
          LiftGroup group = new LiftGroup();
          Checks.same("index", group.addPassenger(from, to, 80), 0);
          Checks.same("start", group.start(0), from);
          Checks.same("destination", group.destination(0), to);
        }
      }
    }
    for (int floor : Scenes.NO_FLOORS) {
      Checks.refusedAlways("start " + floor, ARGUMENT, g -> g.addPassenger(floor, 0, 80));
      Checks.refusedAlways("start " + floor, ARGUMENT, g -> g.addPassenger(floor, 9, 80));
      Checks.refusedAlways("destination " + floor, ARGUMENT, g -> g.addPassenger(0, floor, 80));
      Checks.refusedAlways("destination " + floor, ARGUMENT, g -> g.addPassenger(9, floor, 80));
    }
  }

  private static void addPassengerWeights() {
    for (int weight : new int[] {10, 11, 149, 150}) {
      LiftGroup group = new LiftGroup();
      Checks.same("index", group.addPassenger(0, 9, weight), 0);
      Checks.same("weight", group.weight(0), weight);
      Checks.same("waitingTime", group.waitingTime(0), 0);
      Checks.same("number", group.number(0), 1);
    }
    for (int weight : NO_WEIGHTS) {
      Checks.refusedAlways("weight " + weight, ARGUMENT, g -> g.addPassenger(0, 9, weight));
      LiftGroup group = Scenes.rich();
      try {
        group.addPassenger(0, 9, weight);
      } catch (IllegalArgumentException e) {
        Checks.same("a refused call takes no number", group.number(group.addPassenger(0, 9, 80)), 6);
      }
    }
  }

  private static void twelvePassengers() {
    LiftGroup group = new LiftGroup();
    for (int i = 0; i < 12; i++) {
      Checks.same("index", group.addPassenger(1, 2, 10), i);
      Checks.same("number", group.number(i), i + 1);
      Checks.same("passengerCount", group.passengerCount(), i + 1);
    }
    Checks.refused("the thirteenth", STATE, Scenes::full, g -> g.addPassenger(0, 9, 10));
    Checks.refused("the thirteenth", STATE, Scenes::full, g -> g.addPassenger(9, 0, 150));
    for (int leaving : new int[] {0, 11}) {
      LiftGroup full = Scenes.full();
      full.removePassenger(leaving);
      Checks.same("one place is free again", full.addPassenger(3, 4, 20), 11);
      Checks.same("the number of a refused call is not lost", full.number(11), 13);
      Checks.same("twelve again", full.passengerCount(), 12);
    }
    Checks.refused("the thirteenth after a removal", STATE, BoundsOfChangesTest::fullAgain,
        g -> g.addPassenger(3, 4, 20));
    LiftGroup empty = Scenes.trips(12);
    Checks.same("all twelve have left", empty.passengerCount(), 0);
    Checks.same("the first index again", empty.addPassenger(3, 4, 20), 0);
    Checks.same("but a number of its own", empty.number(0), 13);
  }

  private static LiftGroup fullAgain() {
    LiftGroup group = Scenes.full();
    group.removePassenger(5);
    group.addPassenger(3, 4, 20);
    return group;
  }

  private static int assignedCar(LiftGroup group, int start, int weight) {
    return Checks.carOrNone(group, group.addPassenger(start, 9, weight));
  }

  private static void assignedWithinCapacity() {
    LiftGroup empty = Scenes.oneCar();
    empty.setCapacity(0, 100);
    Checks.same("as much as the capacity", assignedCar(empty, 3, 100), 0);
    Checks.same("one kilogram more", assignedCar(empty, 3, 101), -1);
    Checks.same("waiting passengers are no load", assignedCar(empty, 3, 100), 0);
    LiftGroup riding = Scenes.boarded(150);
    riding.stopCar(1);
    riding.stopCar(2);
    riding.setCapacity(0, 200);
    Checks.same("with the load as much as the capacity", assignedCar(riding, 3, 50), 0);
    Checks.same("with the load one kilogram more", assignedCar(riding, 3, 51), -1);
    Checks.same("a car without room left", assignedCar(Scenes.heaviest(), 3, 10), -1);
    Checks.same("no car in service", assignedCar(Scenes.noCar(), 3, 10), -1);
  }

  private static void assignedToLowestEstimate() {
    // Car 0 has one passenger and stands at floor 0 until step 3; at step 4 it is at floor 1.
    LiftGroup group = Scenes.boarded(80);
    group.advance(2);
    Checks.same("estimate", group.estimate(0, 5), 6);
    Checks.same("one less", assignedCar(group, 5, 80), 1);
    LiftGroup later = Scenes.boarded(80);
    later.advance(3);
    Checks.same("estimate", later.estimate(0, 5), 5);
    Checks.same("the lowest number of equal ones", assignedCar(later, 5, 80), 0);
    Checks.same("the lowest number of equal ones", assignedCar(new LiftGroup(), 5, 80), 0);
    LiftGroup last = new LiftGroup();
    last.stopCar(0);
    last.setCapacity(1, 100);
    Checks.same("the last car", assignedCar(last, 5, 101), 2);
  }

  private static void removePassenger() {
    Checks.same("the first of twelve", Scenes.full().removePassenger(0), 1);
    Checks.same("the last of twelve", Scenes.full().removePassenger(11), 12);
    LiftGroup group = Scenes.full();
    for (int number = 1; number <= 12; number++) {
      Checks.same("each in turn becomes the first", group.removePassenger(0), number);
      Checks.same("passengerCount", group.passengerCount(), 12 - number);
    }
    for (int passenger : NO_PASSENGERS) {
      Checks.refusedAlways("passenger " + passenger, INDEX, g -> g.removePassenger(passenger));
    }
    Checks.refused("the first of none", INDEX, LiftGroup::new, g -> g.removePassenger(0));
    Checks.same("the last of three", Scenes.rich().removePassenger(2), 5);
    Checks.refused("behind the last of three", INDEX, Scenes::rich, g -> g.removePassenger(3));
    Checks.refused("behind the last of one", INDEX, () -> Scenes.waiting(1), g -> g.removePassenger(1));
    Checks.same("the only one", Scenes.waiting(1).removePassenger(0), 1);
    LiftGroup middle = Scenes.rich();
    middle.removePassenger(1);
    Checks.same("the one before stays", middle.number(0), 3);
    Checks.same("the one behind moves up", middle.number(1), 5);
    Checks.same("with all that belongs to it", middle.weight(1), 101);
  }

  private static LiftGroup waitingAfter(int steps) {
    LiftGroup group = Scenes.waiting(1);
    group.advance(steps);
    return group;
  }

  private static void removePassengerInCar() {
    // The car arrives at step 1, opens at step 2, leaves at step 5 and opens for the trip at step 6.
    Checks.same("at the last step of waiting", waitingAfter(1).removePassenger(0), 1);
    for (int steps = 2; steps <= 5; steps++) {
      int passed = steps;
      Checks.refused("in a car", STATE, () -> waitingAfter(passed), g -> g.removePassenger(0));
    }
    Checks.refused("after the trip", INDEX, () -> waitingAfter(6), g -> g.removePassenger(0));
    Checks.refused("in a car", STATE, Scenes::rich, g -> g.removePassenger(0));
    Checks.refused("in a stopped car", STATE, BoundsOfChangesTest::stoppedWithPassenger, g -> g.removePassenger(0));
  }

  private static LiftGroup stoppedWithPassenger() {
    LiftGroup group = Scenes.boarded(80);
    group.stopCar(0);
    return group;
  }

  private static void holdDoors() {
    for (int car = 0; car < 3; car++) {
      for (int steps = 1; steps <= 3; steps++) {
        LiftGroup group = Scenes.allOpen();
        Checks.same("the previous steps", group.holdDoors(car, steps), 2);
        Checks.same("doorSteps", group.doorSteps(car), steps);
        for (int left = steps - 1; left >= 0; left--) {
          group.advance(1);
          Checks.same("a step later", group.doorSteps(car), left);
        }
      }
    }
    for (int car : Scenes.NO_CARS) {
      for (int steps : new int[] {0, 1, 3, 4}) {
        Checks.refusedAlways("car " + car, INDEX, g -> g.holdDoors(car, steps));
      }
    }
    for (int steps : new int[] {0, 4, Integer.MIN_VALUE, Integer.MAX_VALUE}) {
      for (int car = 0; car < 3; car++) {
        int open = car;
        Checks.refusedAlways("steps " + steps, ARGUMENT, g -> g.holdDoors(open, steps));
        Checks.refused("steps " + steps, ARGUMENT, Scenes::allOpen, g -> g.holdDoors(open, steps));
      }
    }
  }

  private static LiftGroup openedFor(int steps) {
    LiftGroup group = new LiftGroup();
    group.addPassenger(0, 5, 80);
    if (steps > 0) {
      group.advance(steps);
    }
    return group;
  }

  private static void holdDoorsClosed() {
    Checks.refused("before they open", STATE, () -> openedFor(0), g -> g.holdDoors(0, 1));
    Checks.same("just opened", openedFor(1).holdDoors(0, 3), 2);
    Checks.same("before they close", openedFor(2).holdDoors(0, 3), 1);
    Checks.refused("just closed", STATE, () -> openedFor(3), g -> g.holdDoors(0, 3));
    Checks.refused("another car", STATE, () -> openedFor(1), g -> g.holdDoors(2, 1));
    LiftGroup held = openedFor(1);
    held.holdDoors(0, 3);
    Checks.same("the longest", held.holdDoors(0, 1), 3);
    Checks.same("the shortest", held.holdDoors(0, 1), 1);
    LiftGroup out = stoppedWithPassenger();
    Checks.same("out of service", out.holdDoors(0, 3), 2);
    out.advance(5);
    Checks.same("they stay open there", out.doorSteps(0), 3);
  }

  private static void stopCar() {
    for (int car = 0; car < 3; car++) {
      int stopped = car;
      LiftGroup group = new LiftGroup();
      Checks.same("nobody was assigned", group.stopCar(car), 0);
      Checks.yes("out of service", !group.isInService(car));
      Checks.refused("stopped twice", STATE, Scenes::noCar, g -> g.stopCar(stopped));
    }
    Checks.same("all twelve", Scenes.full().stopCar(0), 12);
    Checks.same("none of the twelve", Scenes.full().stopCar(1), 0);
    LiftGroup full = Scenes.full();
    full.stopCar(0);
    Checks.same("assigned to no car", Checks.carOrNone(full, 0) + Checks.carOrNone(full, 11), -2);
    Checks.same("one waits for it, one is in it", Scenes.rich().stopCar(0), 1);
    Checks.refused("stopped before", STATE, Scenes::rich, g -> g.stopCar(1));
    for (int car : Scenes.NO_CARS) {
      Checks.refusedAlways("stop car " + car, INDEX, g -> g.stopCar(car));
    }
  }

  private static void startCar() {
    LiftGroup group = Scenes.noCar();
    Checks.same("one in service", group.startCar(2), 1);
    Checks.same("two in service", group.startCar(0), 2);
    Checks.same("three in service", group.startCar(1), 3);
    for (int car = 0; car < 3; car++) {
      int started = car;
      Checks.refused("in service", STATE, LiftGroup::new, g -> g.startCar(started));
      Checks.same("the only one", Scenes.noCar().startCar(car), 1);
    }
    Checks.refused("in service", STATE, Scenes::rich, g -> g.startCar(2));
    Checks.same("out of service", Scenes.rich().startCar(1), 3);
    for (int car : Scenes.NO_CARS) {
      Checks.refusedAlways("start car " + car, INDEX, g -> g.startCar(car));
      Checks.refused("start car " + car, INDEX, Scenes::noCar, g -> g.startCar(car));
    }
  }

  private static void setCapacity() {
    for (int car = 0; car < 3; car++) {
      int limited = car;
      LiftGroup group = new LiftGroup();
      Checks.same("the initial capacity", group.setCapacity(car, 100), 400);
      Checks.same("the smallest", group.setCapacity(car, 101), 100);
      Checks.same("next to it", group.setCapacity(car, 899), 101);
      Checks.same("next to the largest", group.setCapacity(car, 900), 899);
      Checks.same("the largest", group.capacity(car), 900);
      for (int kilograms : new int[] {99, 901, Integer.MIN_VALUE, Integer.MAX_VALUE}) {
        Checks.refusedAlways("capacity " + kilograms, ARGUMENT, g -> g.setCapacity(limited, kilograms));
      }
    }
    for (int car : Scenes.NO_CARS) {
      for (int kilograms : new int[] {99, 100, 900, 901}) {
        Checks.refusedAlways("car " + car, INDEX, g -> g.setCapacity(car, kilograms));
      }
    }
  }

  private static void setCapacityOfLoadedCar() {
    Checks.same("as much as the load", Scenes.boarded(150).setCapacity(0, 150), 400);
    Checks.refused("one less", UNSUPPORTED, () -> Scenes.boarded(150), g -> g.setCapacity(0, 149));
    Checks.refused("the smallest", UNSUPPORTED, () -> Scenes.boarded(101), g -> g.setCapacity(0, 100));
    Checks.same("the smallest", Scenes.boarded(100).setCapacity(0, 100), 400);
    Checks.refused("too small anyway", ARGUMENT, () -> Scenes.boarded(100), g -> g.setCapacity(0, 99));
    Checks.refused("too small anyway", ARGUMENT, () -> Scenes.boarded(150), g -> g.setCapacity(0, Integer.MIN_VALUE));
    Checks.same("the largest load", Scenes.heaviest().setCapacity(0, 900), 900);
    Checks.refused("one less", UNSUPPORTED, Scenes::heaviest, g -> g.setCapacity(0, 899));
    Checks.refused("out of service", UNSUPPORTED, BoundsOfChangesTest::heaviestStopped, g -> g.setCapacity(0, 899));
    Checks.same("another car", Scenes.heaviest().setCapacity(1, 100), 400);
    Checks.same("those who wait are no load", Scenes.full().setCapacity(0, 100), 400);
  }

  private static LiftGroup heaviestStopped() {
    LiftGroup group = Scenes.heaviest();
    group.stopCar(0);
    return group;
  }

  private static void advance() {
    for (int steps : new int[] {1, 2, 29, 30}) {
      LiftGroup group = new LiftGroup();
      Checks.same("no trips", group.advance(steps), 0);
      Checks.same("time", group.time(), steps);
    }
    for (int steps : new int[] {0, 31, -30, Integer.MIN_VALUE, Integer.MAX_VALUE}) {
      Checks.refusedAlways("steps " + steps, ARGUMENT, g -> g.advance(steps));
    }
    LiftGroup before = Scenes.rich();
    Checks.same("the step before the trip", before.advance(12), 0);
    Checks.same("the step of the trip", before.advance(1), 1);
    Checks.same("earlier trips do not count", before.advance(30), 2);
    LiftGroup twelve = Scenes.full();
    Checks.same("twelve trips", twelve.advance(30), 12);
    Checks.same("and no more", twelve.advance(30), 0);
  }
}

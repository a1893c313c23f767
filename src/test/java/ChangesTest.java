/** Promises 1 to 8: the new object and the changes. */
public final class ChangesTest {
  private static final Class<IndexOutOfBoundsException> INDEX = IndexOutOfBoundsException.class;
  private static final Class<IllegalArgumentException> ARGUMENT = IllegalArgumentException.class;
  private static final Class<IllegalStateException> STATE = IllegalStateException.class;
  private static final Class<UnsupportedOperationException> UNSUPPORTED = UnsupportedOperationException.class;

  private ChangesTest() {
  }

  public static void main(String[] args) {
    newObject();
    addPassenger();
    addPassengerRefused();
    removePassenger();
    holdDoors();
    stopAndStart();
    setCapacity();
    advance();
    Checks.end();
  }

  private static LiftGroup boarded() {
    return Scenes.boarded(80);
  }

  private static LiftGroup oneStopped() {
    LiftGroup group = new LiftGroup();
    group.stopCar(1);
    return group;
  }

  private static void newObject() {
    LiftGroup group = new LiftGroup();
    Checks.same("time", group.time(), 0);
    Checks.same("passengerCount", group.passengerCount(), 0);
    for (int car = 0; car < 3; car++) {
      Checks.same("floor", group.floor(car), 0);
      Checks.same("direction", group.direction(car), 0);
      Checks.same("capacity", group.capacity(car), 400);
      Checks.same("load", group.load(car), 0);
      Checks.same("passengersIn", group.passengersIn(car), 0);
      Checks.same("assignedTo", group.assignedTo(car), 0);
      Checks.same("doorSteps", group.doorSteps(car), 0);
      Checks.yes("isInService", group.isInService(car));
      Checks.same("energy", group.energy(car), 0);
      Checks.same("stopCount", group.stopCount(car), 0);
    }
    Checks.same("tripCount", group.tripCount(), 0);
    Checks.same("totalEnergy", group.totalEnergy(), 0);
    Checks.same("totalEnergyByMoves", group.totalEnergyByMoves(), 0);
    Checks.same("floorsUp", group.floorsUp(), 0);
    Checks.same("floorsDown", group.floorsDown(), 0);
    Checks.same("doorOpenings", group.doorOpenings(), 0);
    Checks.yes("isConsistent", group.isConsistent());
  }

  private static void addPassenger() {
    LiftGroup group = new LiftGroup();
    Checks.same("first index", group.addPassenger(9, 0, 10), 0);
    Checks.same("second index", group.addPassenger(0, 9, 150), 1);
    Checks.same("number", group.number(1), 2);
    Checks.same("waitingTime", group.waitingTime(1), 0);
    Checks.yes("waits", !group.isInCar(1));
    Checks.same("car of the nearest", group.carOf(0), 0);
    group.removePassenger(0);
    Checks.same("index after a removal", group.addPassenger(4, 5, 60), 1);
    Checks.same("a number is not used twice", group.number(1), 3);

    LiftGroup tired = new LiftGroup();
    tired.stopCar(0);
    Checks.same("car out of service is passed over", assignedCar(tired, 3, 100), 1);
    tired.setCapacity(1, 100);
    Checks.same("car too small is passed over", assignedCar(tired, 3, 101), 2);
    Checks.same("capacity reached exactly", assignedCar(tired, 3, 100), 1);
    tired.setCapacity(2, 100);
    Checks.same("no car", assignedCar(tired, 3, 101), -1);
  }

  private static int assignedCar(LiftGroup group, int start, int weight) {
    return Checks.carOrNone(group, group.addPassenger(start, start == 9 ? 0 : 9, weight));
  }

  private static void addPassengerRefused() {
    for (int floor : Scenes.NO_FLOORS) {
      Checks.refused("start " + floor, ARGUMENT, LiftGroup::new, g -> g.addPassenger(floor, 3, 80));
      Checks.refused("destination " + floor, ARGUMENT, LiftGroup::new, g -> g.addPassenger(3, floor, 80));
      Checks.refused("both and full", ARGUMENT, Scenes::full, g -> g.addPassenger(floor, floor, 80));
    }
    Checks.refused("equal floors", ARGUMENT, LiftGroup::new, g -> g.addPassenger(4, 4, 80));
    for (int weight : new int[] {9, 151, 0, -80, Integer.MIN_VALUE, Integer.MAX_VALUE}) {
      Checks.refused("weight " + weight, ARGUMENT, LiftGroup::new, g -> g.addPassenger(3, 4, weight));
      Checks.refused("weight when full " + weight, ARGUMENT, Scenes::full, g -> g.addPassenger(3, 4, weight));
    }
    Checks.refused("a thirteenth passenger", STATE, Scenes::full, g -> g.addPassenger(3, 4, 80));
    Checks.same("twelve passengers", Scenes.full().passengerCount(), 12);
  }

  private static void removePassenger() {
    LiftGroup group = new LiftGroup();
    for (int i = 0; i < 4; i++) {
      group.addPassenger(i, 9, 20 + i);
    }
    Checks.same("number of the one removed", group.removePassenger(1), 2);
    Checks.same("passengerCount", group.passengerCount(), 3);
    Checks.same("index before stays", group.number(0), 1);
    Checks.same("index behind decreases", group.number(1), 3);
    Checks.same("index far behind decreases", group.number(2), 4);
    Checks.same("everything moves along", group.weight(2), 23);
    Checks.same("the last", group.removePassenger(2), 4);
    Checks.same("the first", group.removePassenger(0), 1);
    Checks.yes("its start is no stop any more", !group.isStop(0, 1));
    group.advance(1);
    group.removePassenger(0);
    Checks.same("a new passenger has not waited", group.waitingTime(group.addPassenger(5, 6, 30)), 0);
    for (int passenger : new int[] {-1, 1, 12, Integer.MIN_VALUE, Integer.MAX_VALUE}) {
      Checks.refused("passenger " + passenger, INDEX, ChangesTest::boarded, g -> g.removePassenger(passenger));
    }
    Checks.refused("no passengers at all", INDEX, LiftGroup::new, g -> g.removePassenger(0));
    Checks.refused("passenger in a car", STATE, ChangesTest::boarded, g -> g.removePassenger(0));
  }

  private static void holdDoors() {
    LiftGroup group = boarded();
    Checks.same("previous steps", group.holdDoors(0, 3), 2);
    Checks.same("doorSteps", group.doorSteps(0), 3);
    Checks.same("previous steps", group.holdDoors(0, 1), 3);
    Checks.same("previous steps", group.holdDoors(0, 1), 1);
    group.advance(1);
    Checks.same("closed after one step", group.doorSteps(0), 0);
    Checks.same("and not moved yet", group.floor(0), 0);
    for (int car : Scenes.NO_CARS) {
      Checks.refused("car " + car, INDEX, ChangesTest::boarded, g -> g.holdDoors(car, 0));
    }
    for (int steps : new int[] {0, 4, -1, Integer.MIN_VALUE, Integer.MAX_VALUE}) {
      Checks.refused("open, steps " + steps, ARGUMENT, ChangesTest::boarded, g -> g.holdDoors(0, steps));
      Checks.refused("closed, steps " + steps, ARGUMENT, ChangesTest::boarded, g -> g.holdDoors(1, steps));
    }
    Checks.refused("closed doors", STATE, ChangesTest::boarded, g -> g.holdDoors(1, 2));
  }

  private static void stopAndStart() {
    LiftGroup group = boarded();
    group.addPassenger(1, 2, 50);
    group.addPassenger(0, 2, 50);
    // Car 0 holds one passenger already, so both are assigned to car 1.
    Checks.same("assigned to car 1", group.assignedTo(1), 2);
    Checks.same("two are released", group.stopCar(1), 2);
    Checks.same("of car 1", group.assignedTo(1), 0);
    Checks.same("to no car", Checks.carOrNone(group, 1), -1);
    Checks.same("to no car", Checks.carOrNone(group, 2), -1);
    Checks.same("passengers in a car are not counted", group.stopCar(0), 0);
    Checks.same("they stay in it", group.carOf(0), 0);
    Checks.yes("in it", group.isInCar(0));
    Checks.yes("out of service", !group.isInService(0));
    group.advance(3);
    Checks.same("a car out of service does nothing", group.floor(0), 0);
    Checks.same("not even with its doors", group.doorSteps(0), 2);
    Checks.same("in service after the call", group.startCar(1), 2);
    Checks.same("in service after the call", group.startCar(0), 3);
    for (int car : Scenes.NO_CARS) {
      Checks.refused("stop car " + car, INDEX, ChangesTest::oneStopped, g -> g.stopCar(car));
      Checks.refused("start car " + car, INDEX, ChangesTest::oneStopped, g -> g.startCar(car));
    }
    Checks.refused("stopped twice", STATE, ChangesTest::oneStopped, g -> g.stopCar(1));
    Checks.refused("started twice", STATE, ChangesTest::oneStopped, g -> g.startCar(0));
  }

  private static void setCapacity() {
    LiftGroup group = new LiftGroup();
    Checks.same("the first capacity", group.setCapacity(2, 100), 400);
    Checks.same("the one before", group.setCapacity(2, 900), 100);
    Checks.same("capacity", group.capacity(2), 900);
    Checks.same("another car's", group.capacity(1), 400);
    for (int car : Scenes.NO_CARS) {
      Checks.refused("car " + car, INDEX, LiftGroup::new, g -> g.setCapacity(car, 99));
    }
    for (int kilograms : new int[] {99, 901, 0, -400, Integer.MIN_VALUE, Integer.MAX_VALUE}) {
      Checks.refused("capacity " + kilograms, ARGUMENT, ChangesTest::loaded, g -> g.setCapacity(0, kilograms));
    }
    Checks.refused("less than the load", UNSUPPORTED, ChangesTest::loaded, g -> g.setCapacity(0, 199));
    Checks.same("less by one than the capacity", loaded().setCapacity(0, 201), 400);
    Checks.same("as much as the load", loaded().setCapacity(0, 200), 400);
  }

  /** 200 kilograms are in car 0. */
  private static LiftGroup loaded() {
    LiftGroup group = new LiftGroup();
    group.addPassenger(0, 5, 120);
    group.addPassenger(0, 6, 80);
    group.advance(1);
    return group;
  }

  private static void advance() {
    LiftGroup group = new LiftGroup();
    group.addPassenger(0, 1, 80);
    group.addPassenger(0, 2, 80);
    // Opening at step 1, closed at step 3, floor 1 at step 4, a trip at step 5, the other one at step 9.
    Checks.same("no trip", group.advance(4), 0);
    Checks.same("one trip", group.advance(1), 1);
    Checks.same("no trip again", group.advance(3), 0);
    Checks.same("the other trip", group.advance(30), 1);
    Checks.same("time", group.time(), 38);
    Checks.same("both at once", twoTrips().advance(30), 2);
    for (int steps : new int[] {0, 31, -1, Integer.MIN_VALUE, Integer.MAX_VALUE}) {
      Checks.refused("steps " + steps, ARGUMENT, ChangesTest::twoTrips, g -> g.advance(steps));
    }
  }

  private static LiftGroup twoTrips() {
    LiftGroup group = new LiftGroup();
    group.addPassenger(0, 1, 80);
    group.addPassenger(0, 1, 80);
    return group;
  }
}

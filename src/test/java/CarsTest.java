import java.util.NoSuchElementException;

/** Promises 9 to 21: what is told of the time and the cars. */
public final class CarsTest {
  private CarsTest() {
  }

  public static void main(String[] args) {
    answers();
    stops();
    nextStop();
    refusals();
    Checks.end();
  }

  /** Car 0 rides up with passengers of 100 and 60 kilograms, car 1 opens at floor 0, car 2 is out of service. */
  private static LiftGroup busy() {
    LiftGroup group = new LiftGroup();
    group.stopCar(2);
    group.addPassenger(0, 8, 100);
    group.addPassenger(0, 6, 60);
    group.advance(5);
    group.addPassenger(0, 3, 70);
    group.addPassenger(4, 3, 20);
    group.addPassenger(4, 1, 30);
    group.advance(1);
    return group;
  }

  private static void answers() {
    LiftGroup group = busy();
    Checks.same("time", group.time(), 6);
    int[] floors = {3, 0, 0};
    int[] directions = {1, 0, 0};
    int[] loads = {160, 70, 0};
    int[] riders = {2, 1, 0};
    int[] assigned = {2, 0, 0};
    int[] doors = {0, 2, 0};
    int[] energies = {1 + 3 * 3, 1, 0};
    for (int car = 0; car < 3; car++) {
      Checks.same("floor " + car, group.floor(car), floors[car]);
      Checks.same("direction " + car, group.direction(car), directions[car]);
      Checks.same("load " + car, group.load(car), loads[car]);
      Checks.same("passengersIn " + car, group.passengersIn(car), riders[car]);
      Checks.same("assignedTo " + car, group.assignedTo(car), assigned[car]);
      Checks.same("doorSteps " + car, group.doorSteps(car), doors[car]);
      Checks.same("energy " + car, group.energy(car), energies[car]);
      Checks.yes("isInService " + car, group.isInService(car) == (car < 2));
    }
    group.setCapacity(1, 555);
    Checks.same("capacity", group.capacity(1), 555);
    Checks.same("capacity", group.capacity(0), 400);
    group.holdDoors(1, 3);
    Checks.same("doorSteps", group.doorSteps(1), 3);
  }

  private static void stops() {
    LiftGroup group = busy();
    boolean[][] due = new boolean[3][10];
    due[0][4] = true;
    due[0][6] = true;
    due[0][8] = true;
    due[1][3] = true;
    for (int car = 0; car < 3; car++) {
      for (int floor = 0; floor < 10; floor++) {
        Checks.yes("isStop " + car + " " + floor, group.isStop(car, floor) == due[car][floor]);
      }
    }
    Checks.same("a floor counts once", group.stopCount(0), 3);
    Checks.same("stopCount", group.stopCount(1), 1);
    Checks.same("stopCount", group.stopCount(2), 0);
    group.stopCar(0);
    Checks.same("the destinations stay", group.stopCount(0), 2);
    Checks.yes("the start floor does not", !group.isStop(0, 4));
    LiftGroup edges = new LiftGroup();
    edges.addPassenger(0, 9, 10);
    edges.addPassenger(9, 0, 10);
    Checks.yes("floor 0", edges.isStop(0, 0));
    Checks.yes("floor 9", edges.isStop(0, 9));
    Checks.same("both", edges.stopCount(0), 2);
  }

  private static void nextStop() {
    LiftGroup group = busy();
    Checks.same("the first one ahead", group.nextStop(0), 4);
    Checks.same("of an idle car", group.nextStop(1), 3);
    group.advance(1);
    Checks.same("its own floor", group.nextStop(0), 4);
    group.advance(1);
    Checks.same("when the doors have opened", group.nextStop(0), 6);
    LiftGroup down = new LiftGroup();
    down.addPassenger(9, 5, 10);
    down.advance(12);
    down.addPassenger(2, 0, 10);
    Checks.same("where it would turn to", down.nextStop(0), 5);
    down.advance(2);
    Checks.same("going down", down.nextStop(0), 5);
    LiftGroup out = new LiftGroup();
    out.addPassenger(0, 7, 10);
    out.advance(1);
    out.stopCar(0);
    Checks.same("out of service", out.nextStop(0), 7);
    Checks.refused("no stops", NoSuchElementException.class, CarsTest::busy, g -> g.nextStop(2));
  }

  private static void refusals() {
    Class<IndexOutOfBoundsException> index = IndexOutOfBoundsException.class;
    Class<IllegalArgumentException> argument = IllegalArgumentException.class;
    for (int car : Scenes.NO_CARS) {
      Checks.refused("floor", index, CarsTest::busy, g -> g.floor(car));
      Checks.refused("direction", index, CarsTest::busy, g -> g.direction(car));
      Checks.refused("capacity", index, CarsTest::busy, g -> g.capacity(car));
      Checks.refused("load", index, CarsTest::busy, g -> g.load(car));
      Checks.refused("passengersIn", index, CarsTest::busy, g -> g.passengersIn(car));
      Checks.refused("assignedTo", index, CarsTest::busy, g -> g.assignedTo(car));
      Checks.refused("doorSteps", index, CarsTest::busy, g -> g.doorSteps(car));
      Checks.refused("isInService", index, CarsTest::busy, g -> g.isInService(car));
      Checks.refused("energy", index, CarsTest::busy, g -> g.energy(car));
      Checks.refused("isStop", index, CarsTest::busy, g -> g.isStop(car, 0));
      Checks.refused("isStop, first the car", index, CarsTest::busy, g -> g.isStop(car, 10));
      Checks.refused("stopCount", index, CarsTest::busy, g -> g.stopCount(car));
      Checks.refused("nextStop", index, CarsTest::busy, g -> g.nextStop(car));
    }
    for (int floor : new int[] {-1, 10, 32, 36, Integer.MIN_VALUE, Integer.MAX_VALUE}) {
      Checks.refused("isStop floor " + floor, argument, CarsTest::busy, g -> g.isStop(0, floor));
    }
  }
}

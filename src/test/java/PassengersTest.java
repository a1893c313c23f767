import java.util.NoSuchElementException;

/** Promises 22 to 30: what is told of the passengers. */
public final class PassengersTest {
  private static final int[] NO_PASSENGERS = {-1, 3, 12, Integer.MIN_VALUE, Integer.MAX_VALUE};

  private PassengersTest() {
  }

  public static void main(String[] args) {
    answers();
    afterATrip();
    refusals();
    Checks.end();
  }

  /** Number 2 is in car 0, number 3 waits for car 0, number 4 waits for no car. */
  private static LiftGroup some() {
    LiftGroup group = new LiftGroup();
    group.addPassenger(7, 0, 10);
    group.removePassenger(0);
    group.addPassenger(0, 9, 150);
    group.advance(1);
    group.stopCar(1);
    group.stopCar(2);
    group.addPassenger(5, 1, 90);
    group.setCapacity(0, 240);
    group.addPassenger(5, 2, 91);
    group.advance(2);
    return group;
  }

  private static void answers() {
    LiftGroup group = some();
    int[][] due = {{2, 0, 9, 150, 1, 0}, {3, 5, 1, 90, 2, 0}, {4, 5, 2, 91, 2, -1}};
    Checks.same("passengerCount", group.passengerCount(), 3);
    for (int i = 0; i < 3; i++) {
      Checks.same("number " + i, group.number(i), due[i][0]);
      Checks.same("start " + i, group.start(i), due[i][1]);
      Checks.same("destination " + i, group.destination(i), due[i][2]);
      Checks.same("weight " + i, group.weight(i), due[i][3]);
      Checks.same("waitingTime " + i, group.waitingTime(i), due[i][4]);
      Checks.same("carOf " + i, Checks.carOrNone(group, i), due[i][5]);
      Checks.yes("isInCar " + i, group.isInCar(i) == (i == 0));
    }
    Checks.same("waitingAt 5", group.waitingAt(5), 2);
    Checks.same("waitingAt 0, in a car", group.waitingAt(0), 0);
    Checks.same("waitingAt 1", group.waitingAt(1), 0);
    group.addPassenger(9, 0, 20);
    Checks.same("waitingAt 9", group.waitingAt(9), 1);
  }

  private static void afterATrip() {
    LiftGroup group = new LiftGroup();
    group.addPassenger(5, 6, 10);
    group.addPassenger(0, 1, 20);
    group.addPassenger(6, 5, 30);
    Checks.same("one trip", group.advance(5), 1);
    Checks.same("passengerCount", group.passengerCount(), 2);
    Checks.same("the first stays", group.number(0), 1);
    Checks.same("the third moves up", group.number(1), 3);
    Checks.same("with the weight", group.weight(1), 30);
    Checks.same("with the waiting time", group.waitingTime(1), 5);
    Checks.same("the next number", group.number(group.addPassenger(2, 3, 40)), 4);
  }

  private static void refusals() {
    Class<IndexOutOfBoundsException> index = IndexOutOfBoundsException.class;
    for (int passenger : NO_PASSENGERS) {
      Checks.refused("number", index, PassengersTest::some, g -> g.number(passenger));
      Checks.refused("start", index, PassengersTest::some, g -> g.start(passenger));
      Checks.refused("destination", index, PassengersTest::some, g -> g.destination(passenger));
      Checks.refused("weight", index, PassengersTest::some, g -> g.weight(passenger));
      Checks.refused("waitingTime", index, PassengersTest::some, g -> g.waitingTime(passenger));
      Checks.refused("isInCar", index, PassengersTest::some, g -> g.isInCar(passenger));
      Checks.refused("carOf", index, PassengersTest::some, g -> g.carOf(passenger));
    }
    Checks.refused("carOf no car", NoSuchElementException.class, PassengersTest::some, g -> g.carOf(2));
    for (int floor : Scenes.NO_FLOORS) {
      Checks.refused("waitingAt", IllegalArgumentException.class, PassengersTest::some, g -> g.waitingAt(floor));
    }
  }
}

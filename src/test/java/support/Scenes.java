/** Objects in the states that tests start from; each call makes a new one. */
final class Scenes {
  /** The smallest and the largest int, and what lies just outside the cars 0 to 2. */
  static final int[] NO_CARS = {-1, 3, Integer.MIN_VALUE, Integer.MAX_VALUE};
  /** The same for the floors 0 to 9. */
  static final int[] NO_FLOORS = {-1, 10, Integer.MIN_VALUE, Integer.MAX_VALUE};
  /** A script that fills the buffer and ends too early. */
  static final String SIXTY = "step;step;step;step;step;step;step;step;step;step;step;step;";

  private Scenes() {
  }

  /** Runs a script; answers -1 if it does not have the form, -2 if one of its commands fails. */
  static int run(LiftGroup group, String script) {
    Checks.type(group, script);
    try {
      return group.runScript();
    } catch (IllegalArgumentException e) {
      return -1;
    } catch (IllegalStateException e) {
      return -2;
    }
  }

  static LiftGroup typed(String script) {
    LiftGroup group = new LiftGroup();
    Checks.type(group, script);
    return group;
  }

  /** So many passengers from floor 1 to floor 2, all waiting for car 0. */
  static LiftGroup waiting(int count) {
    LiftGroup group = new LiftGroup();
    for (int i = 0; i < count; i++) {
      group.addPassenger(1, 2, 10);
    }
    return group;
  }

  static LiftGroup full() {
    return waiting(12);
  }

  static LiftGroup oneCar() {
    LiftGroup group = new LiftGroup();
    group.stopCar(1);
    group.stopCar(2);
    return group;
  }

  static LiftGroup noCar() {
    LiftGroup group = oneCar();
    group.stopCar(0);
    return group;
  }

  /** One passenger of this weight, on the way to floor 5, is in car 0 on floor 0, with doors open for 2 steps. */
  static LiftGroup boarded(int weight) {
    LiftGroup group = new LiftGroup();
    group.addPassenger(0, 5, weight);
    group.advance(1);
    return group;
  }

  /** Each car is on floor 0 with one passenger of 50 kilograms for floor 5, and with doors open for 2 steps. */
  static LiftGroup allOpen() {
    LiftGroup group = noCar();
    for (int car = 2; car >= 0; car--) {
      group.startCar(car);
      group.addPassenger(0, 5, 50);
    }
    group.advance(1);
    return group;
  }

  /** Car 0 is on floor 0 with six passengers of 150 kilograms for floor 9: the largest capacity is used up. */
  static LiftGroup heaviest() {
    LiftGroup group = oneCar();
    group.setCapacity(0, 900);
    for (int i = 0; i < 6; i++) {
      group.addPassenger(0, 9, 150);
    }
    group.advance(1);
    return group;
  }

  /** Car 0 alone is in service, and stands idle at this floor with closed doors, a step after turning idle. */
  static LiftGroup idleAt(int floor) {
    LiftGroup group = oneCar();
    if (floor > 0) {
      group.addPassenger(floor, 0, 10);
      group.advance(floor);
      group.removePassenger(0);
      group.advance(1);
    }
    return group;
  }

  /**
   * One car that takes one passenger at a time from floor 0 to floor 3: index k boards at step 1 + 12 * k and arrives
   * at step 7 + 12 * k. Some of the steps have passed already.
   */
  static LiftGroup queue(int passed) {
    LiftGroup group = oneCar();
    group.setCapacity(0, 100);
    for (int i = 0; i < 12; i++) {
      group.addPassenger(0, 3, 60);
    }
    if (passed > 0) {
      group.advance(passed);
    }
    return group;
  }

  /** So many trips (at most 12) from floor 0 to floor 1, in car 0, in the order of the numbers and in 5 steps. */
  static LiftGroup trips(int count) {
    LiftGroup group = oneCar();
    for (int i = 0; i < count; i++) {
      group.addPassenger(0, 1, 10);
    }
    group.advance(5);
    return group;
  }

  /** So many changes, the capacity of car 0 being 100 and their number afterwards. */
  static LiftGroup changes(int count) {
    LiftGroup group = new LiftGroup();
    for (int i = 1; i <= count; i++) {
      group.setCapacity(0, 100 + i);
    }
    return group;
  }

  /**
   * Something of everything: two trips are remembered; number 3 rides in car 0, number 4 waits for it, number 5 for no
   * car; car 1 is out of service; there are a snapshot, eight changes to undo, an output text, a begun script, an
   * error position and a failed command.
   */
  static LiftGroup rich() {
    LiftGroup group = new LiftGroup();
    run(group, "stop x");
    run(group, "step;step 0");
    group.addPassenger(0, 1, 100);
    group.addPassenger(0, 1, 50);
    group.advance(9);
    group.save();
    group.setCapacity(2, 100);
    group.setCapacity(0, 200);
    group.stopCar(1);
    group.addPassenger(1, 9, 150);
    group.advance(1);
    group.addPassenger(4, 2, 50);
    group.addPassenger(4, 2, 101);
    group.advance(1);
    group.renderCar(0);
    Checks.type(group, "step 1");
    return group;
  }

  /**
   * Every car has a passenger in it. Car 0 came down to floor 0 and its doors are open; car 1 came up to floor 2, its
   * doors are open too, and it is out of service; car 2 goes up through floor 3. Indices 3 and 4 wait for cars 2 and
   * 0; index 5 waits for no car, though there is room in car 0 by now. Beside that, as in rich(): two trips, a
   * snapshot, an output text, a begun script, an error position and a failed command.
   */
  static LiftGroup crossing() {
    LiftGroup group = new LiftGroup();
    run(group, "stop x");
    run(group, "step;step 0");
    group.addPassenger(0, 1, 100);
    group.addPassenger(0, 1, 50);
    group.advance(9);
    group.save();
    group.stopCar(0);
    group.stopCar(2);
    group.addPassenger(2, 9, 70);
    group.advance(3);
    group.stopCar(1);
    group.setCapacity(1, 300);
    group.startCar(2);
    group.addPassenger(0, 8, 120);
    group.advance(5);
    group.stopCar(2);
    group.startCar(0);
    group.addPassenger(0, 6, 90);
    group.advance(2);
    group.startCar(2);
    group.addPassenger(6, 1, 80);
    group.addPassenger(0, 3, 40);
    group.setCapacity(0, 100);
    group.setCapacity(2, 130);
    group.addPassenger(4, 0, 150);
    group.advance(1);
    group.setCapacity(0, 400);
    group.renderCar(1);
    Checks.type(group, "step 1");
    return group;
  }
}

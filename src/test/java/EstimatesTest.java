import java.util.NoSuchElementException;

/** Promises 31 to 36: estimates, the best car and predictions. */
public final class EstimatesTest {
  private static final Class<IndexOutOfBoundsException> INDEX = IndexOutOfBoundsException.class;
  private static final Class<IllegalArgumentException> ARGUMENT = IllegalArgumentException.class;
  private static final Class<NoSuchElementException> NONE = NoSuchElementException.class;

  private EstimatesTest() {
  }

  public static void main(String[] args) {
    estimates();
    withoutStopAhead();
    bestCar();
    stepsUntilBoarding();
    stepsUntilArrival();
    never();
    tripsWithin();
    refusals();
    Checks.end();
  }

  private static void both(LiftGroup group, int car, int[] due) {
    for (int floor = 0; floor < due.length; floor++) {
      Checks.same("estimate " + floor, group.estimate(car, floor), due[floor]);
      Checks.same("estimateByWalk " + floor, group.estimateByWalk(car, floor), due[floor]);
    }
  }

  /** Car 0 is at floor 3 on its way up, with two passengers who go to 5 and 7. */
  private static LiftGroup upwards() {
    LiftGroup group = new LiftGroup();
    group.addPassenger(0, 5, 80);
    group.addPassenger(0, 7, 80);
    group.advance(6);
    return group;
  }

  private static void estimates() {
    both(upwards(), 0, new int[] {2 + 8 + 3, 2 + 8 + 2, 2 + 8 + 1, 2, 3, 4, 5, 6, 7, 8});
    both(new LiftGroup(), 2, new int[] {0, 1, 2, 3, 4, 5, 6, 7, 8, 9});
    LiftGroup stopped = upwards();
    stopped.stopCar(0);
    both(stopped, 0, new int[] {13, 12, 11, 2, 3, 4, 5, 6, 7, 8});
    LiftGroup down = new LiftGroup();
    down.addPassenger(6, 2, 80);
    down.advance(6 + 3 + 1);
    Checks.same("going down", down.direction(0), -1);
    // At floor 5, one passenger, the last stop down is 2.
    both(down, 0, new int[] {6, 5, 4, 3, 2, 1, 1 + 6 + 1, 1 + 6 + 2, 1 + 6 + 3, 1 + 6 + 4});
    LiftGroup waiting = new LiftGroup();
    waiting.addPassenger(8, 2, 80);
    waiting.advance(2);
    // The start floor of a waiting passenger is a stop, the destination is none yet.
    both(waiting, 0, new int[] {14, 13, 0, 1, 2, 3, 4, 5, 6, 7});
  }

  private static void withoutStopAhead() {
    LiftGroup group = new LiftGroup();
    group.addPassenger(4, 2, 80);
    group.advance(2);
    group.removePassenger(0);
    Checks.same("still upwards", group.direction(0), 1);
    both(group, 0, new int[] {2, 1, 0, 1, 2, 3, 4, 5, 6, 7});
    LiftGroup top = new LiftGroup();
    top.addPassenger(9, 4, 80);
    top.advance(10);
    Checks.same("upwards at the top", top.direction(0), 1);
    both(top, 0, new int[] {10, 9, 8, 7, 6, 5, 4, 3, 2, 1});
  }

  private static void bestCar() {
    LiftGroup group = upwards();
    Checks.same("lowest estimate", group.bestCar(4, 80), 0);
    Checks.same("lowest number of equal ones", group.bestCar(0, 80), 1);
    Checks.same("a lower number before an equal higher one", group.bestCar(3, 80), 0);
    Checks.same("equal estimates of cars 1 and 2", group.bestCar(1, 80), 1);
    group.setCapacity(0, 169);
    Checks.same("the load counts", group.bestCar(4, 10), 1);
    group.setCapacity(0, 170);
    Checks.same("just so", group.bestCar(4, 10), 0);
    group.stopCar(1);
    Checks.same("out of service", group.bestCar(1, 80), 2);
    Checks.same("it adds nobody", group.passengerCount(), 2);
    int index = group.addPassenger(1, 2, 80);
    Checks.same("where one would be assigned", group.carOf(index), 2);
    group.stopCar(2);
    group.stopCar(0);
    Checks.refused("no car", NONE, () -> allStopped(), g -> g.bestCar(4, 80));
  }

  private static LiftGroup allStopped() {
    LiftGroup group = new LiftGroup();
    group.addPassenger(3, 5, 80);
    for (int car = 0; car < 3; car++) {
      group.stopCar(car);
    }
    return group;
  }

  private static void stepsUntilBoarding() {
    LiftGroup group = new LiftGroup();
    group.addPassenger(3, 7, 80);
    group.addPassenger(5, 1, 80);
    Checks.same("first", group.stepsUntilBoarding(0), 4);
    Checks.same("second", group.stepsUntilBoarding(1), 9);
    Checks.same("nothing has changed", group.time(), 0);
    group.advance(4);
    Checks.same("in a car now", group.stepsUntilBoarding(0), 0);
    Checks.same("second", group.stepsUntilBoarding(1), 5);
    group.advance(5);
    Checks.same("in a car now", group.stepsUntilBoarding(1), 0);
    Checks.same("8 boardings before", Scenes.queue(0).stepsUntilBoarding(7), 85);
    Checks.same("within 90 steps", Scenes.queue(7).stepsUntilBoarding(7), 90);
    Checks.refused("not within 90 steps", NONE, () -> Scenes.queue(6), g -> g.stepsUntilBoarding(8));
  }

  private static void stepsUntilArrival() {
    LiftGroup group = new LiftGroup();
    group.addPassenger(3, 7, 80);
    group.addPassenger(0, 1, 80);
    // Car 0 opens at once for the second one, who leaves at step 5; then floor 3 at step 9, and so on.
    Checks.same("second", group.stepsUntilArrival(1), 5);
    Checks.same("first", group.stepsUntilArrival(0), 17);
    group.advance(5);
    Checks.same("the index is another one now", group.stepsUntilArrival(0), 12);
    group.advance(11);
    Checks.same("the next step", group.stepsUntilArrival(0), 1);
    Checks.same("that step", group.advance(1), 1);
    Checks.same("6 arrivals before", Scenes.queue(0).stepsUntilArrival(6), 79);
    Checks.same("within 90 steps", Scenes.queue(1).stepsUntilArrival(7), 90);
    Checks.refused("not within 90 steps", NONE, () -> Scenes.queue(0), g -> g.stepsUntilArrival(7));
  }

  private static void never() {
    Checks.refused("no car comes", NONE, EstimatesTest::allStopped, g -> g.stepsUntilBoarding(0));
    Checks.refused("no car comes", NONE, EstimatesTest::allStopped, g -> g.stepsUntilArrival(0));
    Checks.refused("inside a stopped car", NONE, EstimatesTest::stuck, g -> g.stepsUntilArrival(0));
    Checks.same("but in a car", stuck().stepsUntilBoarding(0), 0);
  }

  private static LiftGroup stuck() {
    LiftGroup group = Scenes.boarded(80);
    group.stopCar(0);
    return group;
  }

  private static void tripsWithin() {
    LiftGroup group = new LiftGroup();
    group.addPassenger(0, 1, 80);
    group.addPassenger(0, 2, 80);
    Checks.same("none at once", group.tripsWithin(0), 0);
    Checks.same("none yet", group.tripsWithin(4), 0);
    Checks.same("one", group.tripsWithin(5), 1);
    Checks.same("one still", group.tripsWithin(8), 1);
    Checks.same("two", group.tripsWithin(9), 2);
    Checks.same("two", group.tripsWithin(90), 2);
    Checks.same("nothing has changed", group.time() + group.tripCount(), 0);
    group.advance(9);
    Checks.same("earlier trips do not count", group.tripsWithin(90), 0);
    Checks.same("the seventh trip is at step 79", Scenes.queue(0).tripsWithin(78), 6);
    Checks.same("the seventh trip is at step 79", Scenes.queue(0).tripsWithin(79), 7);
    Checks.same("the last step counts", Scenes.queue(1).tripsWithin(90), 8);
  }

  private static void refusals() {
    for (int car : Scenes.NO_CARS) {
      Checks.refused("estimate", INDEX, LiftGroup::new, g -> g.estimate(car, 0));
      Checks.refused("estimate, first the car", INDEX, LiftGroup::new, g -> g.estimate(car, -1));
      Checks.refused("estimateByWalk", INDEX, LiftGroup::new, g -> g.estimateByWalk(car, 0));
      Checks.refused("estimateByWalk, first the car", INDEX, LiftGroup::new, g -> g.estimateByWalk(car, 10));
    }
    for (int floor : Scenes.NO_FLOORS) {
      Checks.refused("estimate", ARGUMENT, LiftGroup::new, g -> g.estimate(0, floor));
      Checks.refused("estimateByWalk", ARGUMENT, LiftGroup::new, g -> g.estimateByWalk(0, floor));
      Checks.refused("bestCar", ARGUMENT, LiftGroup::new, g -> g.bestCar(floor, 80));
      Checks.refused("bestCar, first the floor", ARGUMENT, EstimatesTest::allStopped, g -> g.bestCar(floor, 80));
    }
    for (int weight : new int[] {9, 151, Integer.MIN_VALUE, Integer.MAX_VALUE}) {
      Checks.refused("bestCar", ARGUMENT, EstimatesTest::allStopped, g -> g.bestCar(3, weight));
    }
    Checks.same("bestCar", new LiftGroup().bestCar(9, 10), 0);
    Checks.same("bestCar", new LiftGroup().bestCar(0, 150), 0);
    for (int passenger : new int[] {-1, 1, 12, Integer.MIN_VALUE, Integer.MAX_VALUE}) {
      Checks.refused("stepsUntilBoarding", INDEX, EstimatesTest::stuck, g -> g.stepsUntilBoarding(passenger));
      Checks.refused("stepsUntilArrival", INDEX, EstimatesTest::stuck, g -> g.stepsUntilArrival(passenger));
    }
    for (int steps : new int[] {-1, 91, Integer.MIN_VALUE, Integer.MAX_VALUE}) {
      Checks.refused("tripsWithin", ARGUMENT, EstimatesTest::stuck, g -> g.tripsWithin(steps));
    }
  }
}

/** The boundaries that "Terms" names for steps: doors, boarding, directions, estimates and assigning again. */
public final class BoundsOfTermsTest {
  private BoundsOfTermsTest() {
  }

  public static void main(String[] args) {
    doors();
    openingAgain();
    boarding();
    nobodyBoards();
    notAssignedAtOnce();
    releasedAndStillWaiting();
    stoppedOnItsWay();
    leavingBeforeBoarding();
    turningAtTheEnds();
    keepingTheDirection();
    nearestStop();
    idleCarMoves();
    estimatesUpwards();
    estimatesDownwards();
    estimatesWithoutStopsAhead();
    assignedAgainInOrder();
    waitingForNoCar();
    indicesAfterLeaving();
    Checks.end();
  }

  private static void doors() {
    LiftGroup group = new LiftGroup();
    group.addPassenger(0, 1, 10);
    int[] doors = {2, 1, 0, 0, 2, 1, 0, 0};
    int[] floors = {0, 0, 0, 1, 1, 1, 1, 1};
    for (int i = 0; i < doors.length; i++) {
      group.advance(1);
      Checks.same("doorSteps after " + (i + 1), group.doorSteps(0), doors[i]);
      Checks.same("floor after " + (i + 1), group.floor(0), floors[i]);
    }
    LiftGroup held = Scenes.boarded(80);
    held.holdDoors(0, 3);
    int[] left = {2, 1, 0, 0};
    for (int i = 0; i < left.length; i++) {
      held.advance(1);
      Checks.same("doorSteps after holding", held.doorSteps(0), left[i]);
      Checks.same("floor after holding", held.floor(0), i < 3 ? 0 : 1);
    }
    LiftGroup briefly = Scenes.boarded(80);
    briefly.holdDoors(0, 1);
    briefly.advance(1);
    Checks.same("closing takes the step", briefly.floor(0), 0);
    briefly.advance(1);
    Checks.same("the next one moves", briefly.floor(0), 1);
  }

  private static void openingAgain() {
    LiftGroup group = Scenes.boarded(80);
    group.stopCar(1);
    group.stopCar(2);
    group.addPassenger(0, 9, 10);
    for (int step = 1; step <= 2; step++) {
      group.advance(1);
      Checks.yes("nobody boards while the doors stay open, nor when they close", !group.isInCar(1));
    }
    group.advance(1);
    Checks.yes("but when they open again", group.isInCar(1));
    Checks.same("for two steps", group.doorSteps(0), 2);
    Checks.same("which is an opening", group.doorOpenings(), 2);
  }

  /** Car 0 comes to floor 1 with this capacity, for passengers of these weights, all of them assigned to it. */
  private static LiftGroup opened(int capacity, int... weights) {
    LiftGroup group = Scenes.oneCar();
    for (int weight : weights) {
      group.addPassenger(1, 2, weight);
    }
    group.setCapacity(0, capacity);
    group.advance(2);
    return group;
  }

  private static void boarding() {
    Checks.yes("as heavy as the capacity", opened(100, 100).isInCar(0));
    LiftGroup heavy = opened(100, 101);
    Checks.yes("one kilogram more", !heavy.isInCar(0));
    Checks.same("then assigned to no car", Checks.carOrNone(heavy, 0), -1);
    Checks.same("the doors are open all the same", heavy.doorSteps(0), 2);
    LiftGroup together = opened(150, 75, 75);
    Checks.yes("together as heavy as the capacity", together.isInCar(0) && together.isInCar(1));
    LiftGroup more = opened(150, 75, 76);
    Checks.yes("together one kilogram more", more.isInCar(0) && !more.isInCar(1));
    Checks.same("then assigned to no car", Checks.carOrNone(more, 1), -1);
    LiftGroup between = opened(100, 90, 11, 10);
    Checks.yes("in the order of indices, each one if it fits",
        between.isInCar(0) && !between.isInCar(1) && between.isInCar(2));
    Checks.same("load", between.load(0), 100);
    LiftGroup crowd = opened(120, 10, 10, 10, 10, 10, 10, 10, 10, 10, 10, 10, 10);
    Checks.same("all twelve fit exactly", crowd.passengersIn(0), 12);
  }

  private static void nobodyBoards() {
    LiftGroup group = opened(100, 101);
    Checks.same("a floor up and an opening, though nobody boards", group.energy(0), 3);
    Checks.same("an opening all the same", group.doorOpenings(), 1);
    Checks.same("the direction stays", group.direction(0), 1);
    group.advance(1);
    Checks.same("the doors stay open", group.doorSteps(0), 1);
    group.advance(1);
    Checks.same("and close", group.doorSteps(0), 0);
    group.advance(1);
    Checks.same("then it is idle", group.direction(0), 0);
    Checks.same("where it is", group.floor(0), 1);
  }

  private static void notAssignedAtOnce() {
    LiftGroup group = Scenes.oneCar();
    group.addPassenger(1, 2, 101);
    group.setCapacity(0, 100);
    group.startCar(1);
    group.advance(2);
    Checks.same("car 0 has opened", group.doorSteps(0), 2);
    Checks.same("not assigned to car 1 in the same step", Checks.carOrNone(group, 0), -1);
    Checks.same("nor does car 1 move for it", group.floor(1), 0);
    group.advance(1);
    Checks.same("but in the next one", group.carOf(0), 1);
    Checks.same("in which car 1 moves for it", group.floor(1), 1);
    Checks.same("its waiting time goes on", group.waitingTime(0), 3);
    group.advance(1);
    Checks.yes("and it boards", group.isInCar(0));
    Checks.same("its waiting time goes on", group.waitingTime(0), 4);
  }

  private static void releasedAndStillWaiting() {
    LiftGroup group = new LiftGroup();
    group.addPassenger(9, 0, 10);
    group.advance(3);
    Checks.same("one is released", group.stopCar(0), 1);
    Checks.same("its waiting time stays", group.waitingTime(0), 3);
    group.advance(1);
    Checks.same("and goes on", group.waitingTime(0), 4);
    Checks.same("assigned again", group.carOf(0), 1);
  }

  private static void stoppedOnItsWay() {
    LiftGroup group = upwardsAt(4);
    group.setCapacity(0, 300);
    group.stopCar(0);
    group.advance(30);
    Checks.same("time passes without a car in service", group.time(), 34);
    Checks.same("the car keeps its direction", group.direction(0), 1);
    Checks.same("and its floor", group.floor(0), 4);
    Checks.same("and its energy", group.energy(0), 8);
    group.startCar(0);
    Checks.same("also when it serves again", group.direction(0), 1);
    Checks.same("with the same capacity", group.capacity(0), 300);
    group.advance(1);
    Checks.same("until it chooses", group.direction(0), 0);
    LiftGroup open = Scenes.boarded(80);
    open.stopCar(0);
    open.advance(30);
    Checks.same("its doors stay open", open.doorSteps(0), 2);
    Checks.same("with its passenger", open.passengersIn(0), 1);
    open.startCar(0);
    open.advance(2);
    Checks.same("and close when it serves again", open.doorSteps(0), 0);
  }

  private static void leavingBeforeBoarding() {
    LiftGroup group = Scenes.oneCar();
    group.setCapacity(0, 100);
    group.addPassenger(0, 3, 100);
    group.addPassenger(3, 5, 100);
    Checks.same("one leaves at floor 3", group.advance(7), 1);
    Checks.yes("which makes room at once", group.isInCar(0));
    Checks.same("for one as heavy", group.load(0), 100);
  }

  private static void turningAtTheEnds() {
    LiftGroup top = Scenes.oneCar();
    top.addPassenger(9, 8, 10);
    top.advance(12);
    Checks.same("at the top, with closed doors", top.floor(0), 9);
    top.advance(1);
    Checks.same("it turns", top.direction(0), -1);
    Checks.same("and goes down", top.floor(0), 8);
    LiftGroup bottom = Scenes.idleAt(1);
    bottom.addPassenger(0, 1, 10);
    bottom.advance(1);
    Checks.same("down to the bottom", bottom.floor(0), 0);
    bottom.advance(3);
    Checks.same("still downwards", bottom.direction(0), -1);
    bottom.advance(1);
    Checks.same("it turns", bottom.direction(0), 1);
    Checks.same("and goes up", bottom.floor(0), 1);
  }

  /** Car 0, alone in service, goes up from floor 0 to this floor, and its only stop is taken away there. */
  private static LiftGroup upwardsAt(int floor) {
    LiftGroup group = Scenes.oneCar();
    group.addPassenger(9, 0, 10);
    group.advance(floor);
    group.removePassenger(0);
    return group;
  }

  /** The same downwards, from floor 9, where an idle car has been turned round by a stop at floor 0. */
  private static LiftGroup downwardsAt(int floor) {
    LiftGroup group = Scenes.idleAt(9);
    group.addPassenger(0, 9, 10);
    group.advance(9 - floor);
    group.removePassenger(0);
    return group;
  }

  private static void moves(String what, LiftGroup group, int direction, int... stops) {
    for (int stop : stops) {
      group.addPassenger(stop, stop == 0 ? 9 : 0, 10);
    }
    int before = group.floor(0);
    group.advance(1);
    Checks.same(what + ", direction", group.direction(0), direction);
    Checks.same(what + ", floor", group.floor(0), before + direction);
  }

  private static void keepingTheDirection() {
    moves("up, a stop one above", upwardsAt(4), 1, 5);
    moves("up, a stop at the top", upwardsAt(4), 1, 9);
    moves("up, a nearer one below", upwardsAt(4), 1, 3, 9);
    moves("up, one below alone", upwardsAt(4), -1, 3);
    moves("up, one at the bottom alone", upwardsAt(4), -1, 0);
    moves("up, none", upwardsAt(4), 0);
    moves("down, a stop one below", downwardsAt(4), -1, 3);
    moves("down, a stop at the bottom", downwardsAt(4), -1, 0);
    moves("down, a nearer one above", downwardsAt(4), -1, 5, 0);
    moves("down, one above alone", downwardsAt(4), 1, 5);
    moves("down, one at the top alone", downwardsAt(4), 1, 9);
    moves("down, none", downwardsAt(4), 0);
  }

  private static void nearestStop() {
    moves("equally near by one", Scenes.idleAt(4), 1, 3, 5);
    moves("equally near by four", Scenes.idleAt(4), 1, 0, 8);
    moves("below nearer by one", Scenes.idleAt(4), -1, 3, 6);
    moves("below nearer by one", Scenes.idleAt(4), -1, 0, 9);
    moves("above nearer by one", Scenes.idleAt(4), 1, 2, 5);
    moves("one above", Scenes.idleAt(4), 1, 9);
    moves("one below", Scenes.idleAt(4), -1, 0);
    moves("from the bottom", Scenes.idleAt(0), 1, 9);
    moves("from the top", Scenes.idleAt(9), -1, 0);
    moves("none", Scenes.idleAt(4), 0);
    LiftGroup own = Scenes.idleAt(4);
    moves("its own floor", own, 0, 4);
    Checks.same("there it opens", own.doorSteps(0), 2);
  }

  private static void idleCarMoves() {
    LiftGroup group = upwardsAt(4);
    group.advance(1);
    Checks.same("it takes no energy without a move", group.energy(0), 4 * 2);
    group.advance(30);
    Checks.same("and stays", group.floor(0), 4);
    Checks.same("idle", group.direction(0), 0);
    Checks.same("floorsUp", group.floorsUp(), 4);
  }

  private static void both(String what, LiftGroup group, int... due) {
    for (int floor = 0; floor < due.length; floor++) {
      Checks.same("estimate " + floor + ", " + what, group.estimate(0, floor), due[floor]);
      Checks.same("estimateByWalk " + floor + ", " + what, group.estimateByWalk(0, floor), due[floor]);
    }
  }

  private static LiftGroup withStops(LiftGroup group, int... stops) {
    for (int stop : stops) {
      group.addPassenger(stop, stop == 0 ? 9 : 0, 10);
    }
    return group;
  }

  private static void estimatesUpwards() {
    both("last stop one above", withStops(upwardsAt(4), 5), 6, 5, 4, 3, 0, 1, 2, 3, 4, 5);
    both("last stop at the top", withStops(upwardsAt(4), 9), 14, 13, 12, 11, 0, 1, 2, 3, 4, 5);
    both("the last of several", withStops(upwardsAt(4), 5, 7, 6), 10, 9, 8, 7, 0, 1, 2, 3, 4, 5);
    both("stops below alone", withStops(upwardsAt(4), 3, 0), 4, 3, 2, 1, 0, 1, 2, 3, 4, 5);
    both("its own floor alone", withStops(upwardsAt(4), 4), 4, 3, 2, 1, 0, 1, 2, 3, 4, 5);
    both("its own floor and the next", withStops(upwardsAt(4), 4, 5), 6, 5, 4, 3, 0, 1, 2, 3, 4, 5);
    both("at the top", withStops(upwardsAt(9), 9, 3), 9, 8, 7, 6, 5, 4, 3, 2, 1, 0);
    both("one below the top", withStops(upwardsAt(8), 9), 10, 9, 8, 7, 6, 5, 4, 3, 0, 1);
  }

  private static void estimatesDownwards() {
    both("last stop one below", withStops(downwardsAt(4), 3), 4, 3, 2, 1, 0, 3, 4, 5, 6, 7);
    both("last stop at the bottom", withStops(downwardsAt(4), 0), 4, 3, 2, 1, 0, 9, 10, 11, 12, 13);
    both("the last of several", withStops(downwardsAt(4), 3, 1, 2), 4, 3, 2, 1, 0, 7, 8, 9, 10, 11);
    both("stops above alone", withStops(downwardsAt(4), 5, 9), 4, 3, 2, 1, 0, 1, 2, 3, 4, 5);
    both("its own floor alone", withStops(downwardsAt(4), 4), 4, 3, 2, 1, 0, 1, 2, 3, 4, 5);
    both("its own floor and the next", withStops(downwardsAt(4), 4, 3), 4, 3, 2, 1, 0, 3, 4, 5, 6, 7);
    both("at the bottom", withStops(downwardsAt(0), 0, 6), 0, 1, 2, 3, 4, 5, 6, 7, 8, 9);
    both("one above the bottom", withStops(downwardsAt(1), 0), 1, 0, 3, 4, 5, 6, 7, 8, 9, 10);
  }

  private static void estimatesWithoutStopsAhead() {
    both("upwards without stops", upwardsAt(4), 4, 3, 2, 1, 0, 1, 2, 3, 4, 5);
    both("downwards without stops", downwardsAt(4), 4, 3, 2, 1, 0, 1, 2, 3, 4, 5);
    both("idle without stops", Scenes.idleAt(4), 4, 3, 2, 1, 0, 1, 2, 3, 4, 5);
    both("idle with stops", withStops(Scenes.idleAt(4), 0, 9), 4, 3, 2, 1, 0, 1, 2, 3, 4, 5);
    both("six passengers", Scenes.heaviest(), 6, 7, 8, 9, 10, 11, 12, 13, 14, 15);
    LiftGroup away = Scenes.heaviest();
    away.advance(3);
    both("six passengers, away", away, 6 + 2 * 8 + 1, 6, 7, 8, 9, 10, 11, 12, 13, 14);
  }

  /** Car 1 is at floor 3, upwards and without stops; cars 0 and 1 serve again, for those who wait for no car. */
  private static LiftGroup reassigned(int first, int second) {
    LiftGroup group = new LiftGroup();
    group.stopCar(0);
    group.stopCar(2);
    group.addPassenger(9, 0, 10);
    group.advance(3);
    group.removePassenger(0);
    group.stopCar(1);
    group.addPassenger(first, 5, 10);
    group.addPassenger(second, 5, 10);
    group.startCar(0);
    group.startCar(1);
    group.advance(1);
    return group;
  }

  private static void assignedAgainInOrder() {
    // With a stop at floor 8 car 1 would come back to floor 2 after 11 floors, without it after 1.
    LiftGroup group = reassigned(8, 2);
    Checks.same("the first", group.carOf(0), 1);
    Checks.same("the second, with the first one's stop", group.carOf(1), 0);
    LiftGroup other = reassigned(2, 8);
    Checks.same("the first", other.carOf(0), 1);
    Checks.same("the second", other.carOf(1), 1);
  }

  private static void waitingForNoCar() {
    LiftGroup group = Scenes.noCar();
    group.addPassenger(0, 9, 10);
    group.advance(1);
    Checks.same("waiting goes on without a car", group.waitingTime(0), 1);
    group.startCar(0);
    Checks.same("not before the next step", Checks.carOrNone(group, 0), -1);
    group.advance(1);
    Checks.yes("assigned and boarded in one step", group.isInCar(0));
    Checks.same("which counts", group.waitingTime(0), 2);
    LiftGroup full = Scenes.heaviest();
    full.addPassenger(9, 0, 10);
    Checks.same("no room left", Checks.carOrNone(full, 6), -1);
    full.advance(12);
    Checks.same("six leave at floor 9", full.tripCount(), 6);
    Checks.same("they leave after the assigning of that step", Checks.carOrNone(full, 0), -1);
    full.advance(1);
    Checks.same("there is room in the next one", full.carOf(0), 0);
    LiftGroup assigned = new LiftGroup();
    assigned.addPassenger(5, 6, 10);
    assigned.stopCar(0);
    assigned.advance(1);
    Checks.same("released and assigned again", assigned.carOf(0), 1);
    assigned.startCar(0);
    assigned.advance(1);
    Checks.same("an assigned one stays assigned", assigned.carOf(0), 1);
  }

  private static void indicesAfterLeaving() {
    LiftGroup group = Scenes.oneCar();
    for (int i = 0; i < 12; i++) {
      group.addPassenger(0, i % 3 == 0 ? 1 : 2, 10);
    }
    Checks.same("those for floor 1 leave", group.advance(5), 4);
    int[] numbers = {2, 3, 5, 6, 8, 9, 11, 12};
    Checks.same("passengerCount", group.passengerCount(), 8);
    for (int i = 0; i < 8; i++) {
      Checks.same("the others move up in their order", group.number(i), numbers[i]);
    }
    for (int recency = 0; recency < 4; recency++) {
      Checks.same("they leave in the order of indices", group.tripNumber(recency), 10 - 3 * recency);
    }
    Checks.same("the others leave", group.advance(4), 8);
    Checks.same("in the order of indices", group.tripNumber(0), 12);
    Checks.same("in the order of indices", group.tripNumber(7), 2);
    Checks.same("nobody is left", group.passengerCount(), 0);
  }
}

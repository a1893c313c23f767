/** One step, the choice of direction and the energy, as "Terms" tells them; promises 8, 11, 16, 18 and 27. */
public final class StepTest {
  private StepTest() {
  }

  public static void main(String[] args) {
    wholeTrip();
    turning();
    nearestStop();
    boardingByCapacity();
    assignedAgain();
    lateComer();
    orderOfCars();
    energyByLoad();
    directionAtAStop();
    Checks.end();
  }

  private static void wholeTrip() {
    LiftGroup group = new LiftGroup();
    group.addPassenger(2, 0, 80);
    int[] floors = {1, 2, 2, 2, 2, 1, 0, 0, 0, 0, 0};
    int[] directions = {1, 1, 1, 1, 1, -1, -1, -1, -1, -1, 0};
    int[] doors = {0, 0, 2, 1, 0, 0, 0, 2, 1, 0, 0};
    int[] energies = {2, 4, 5, 5, 5, 6, 7, 8, 8, 8, 8};
    for (int i = 0; i < floors.length; i++) {
      Checks.same("trips", group.advance(1), i == 7 ? 1 : 0);
      Checks.same("floor after step " + (i + 1), group.floor(0), floors[i]);
      Checks.same("direction after step " + (i + 1), group.direction(0), directions[i]);
      Checks.same("doorSteps after step " + (i + 1), group.doorSteps(0), doors[i]);
      Checks.same("energy after step " + (i + 1), group.energy(0), energies[i]);
      if (i < 7) {
        Checks.same("waitingTime stays in a car", group.waitingTime(0), Math.min(i + 1, 3));
        Checks.yes("in the car since step 3", group.isInCar(0) == i >= 2);
      }
    }
    Checks.same("nobody is left", group.passengerCount(), 0);
    Checks.same("nobody is in the car", group.passengersIn(0), 0);
    Checks.same("nor their weight", group.load(0), 0);
    Checks.same("nor do they count in an estimate", group.estimate(0, 3), 3);
    Checks.same("tripWaiting", group.tripWaiting(0), 3);
    Checks.same("other cars have not moved", group.energy(1) + group.energy(2), 0);
  }

  private static void turning() {
    LiftGroup group = Scenes.oneCar();
    group.addPassenger(5, 6, 80);
    group.advance(3);
    group.addPassenger(1, 0, 80);
    // It is at floor 3 and keeps going up while there is a stop above.
    group.advance(1);
    Checks.same("keeps its direction", group.floor(0), 4);
    group.removePassenger(0);
    group.advance(1);
    Checks.same("turns without a stop ahead", group.floor(0), 3);
    Checks.same("turns without a stop ahead", group.direction(0), -1);
    group.addPassenger(9, 0, 80);
    group.advance(1);
    Checks.same("keeps its direction down", group.floor(0), 2);
    group.removePassenger(0);
    group.advance(1);
    Checks.same("turns upwards", group.floor(0), 3);
    Checks.same("turns upwards", group.direction(0), 1);
    group.removePassenger(0);
    group.advance(1);
    Checks.same("idle without stops", group.direction(0), 0);
    Checks.same("idle without stops", group.floor(0), 3);
  }

  private static void nearestStop() {
    Checks.same("idle", Scenes.idleAt(4).direction(0), 0);
    LiftGroup equal = Scenes.idleAt(4);
    equal.addPassenger(2, 0, 80);
    equal.addPassenger(6, 0, 80);
    Checks.same("nextStop of equally near ones", equal.nextStop(0), 6);
    equal.advance(1);
    Checks.same("up if equally near", equal.direction(0), 1);
    LiftGroup below = Scenes.idleAt(4);
    below.addPassenger(7, 0, 80);
    below.addPassenger(2, 0, 80);
    Checks.same("nextStop of the nearest", below.nextStop(0), 2);
    below.advance(1);
    Checks.same("down to the nearest", below.direction(0), -1);
    LiftGroup above = Scenes.idleAt(4);
    above.addPassenger(1, 0, 80);
    above.addPassenger(6, 0, 80);
    above.advance(1);
    Checks.same("up to the nearest", above.direction(0), 1);
  }

  private static void boardingByCapacity() {
    LiftGroup group = Scenes.oneCar();
    group.setCapacity(0, 200);
    group.addPassenger(0, 5, 120);
    group.addPassenger(0, 5, 100);
    group.addPassenger(0, 5, 80);
    group.addPassenger(0, 5, 10);
    group.advance(1);
    Checks.yes("the first boards", group.isInCar(0));
    Checks.yes("the second is too heavy", !group.isInCar(1));
    Checks.yes("the third fits exactly", group.isInCar(2));
    Checks.yes("the fourth finds no room", !group.isInCar(3));
    Checks.same("load", group.load(0), 200);
    Checks.same("those who do not board have no car", Checks.carOrNone(group, 1), -1);
    Checks.same("those who do not board have no car", Checks.carOrNone(group, 3), -1);
    group.startCar(1);
    group.advance(1);
    Checks.same("assigned again in the next step", group.carOf(1), 1);
    Checks.same("waiting goes on", group.waitingTime(1), 2);
    Checks.yes("and boards in the same step", group.isInCar(1));
  }

  private static void assignedAgain() {
    LiftGroup group = new LiftGroup();
    group.stopCar(0);
    group.stopCar(1);
    group.stopCar(2);
    group.addPassenger(3, 0, 100);
    group.addPassenger(6, 0, 100);
    group.addPassenger(2, 0, 100);
    group.advance(2);
    Checks.same("nobody is assigned", Checks.carOrNone(group, 0), -1);
    Checks.same("they wait", group.waitingTime(2), 2);
    group.startCar(2);
    group.startCar(1);
    Checks.same("starting assigns nobody", Checks.carOrNone(group, 0), -1);
    group.advance(1);
    Checks.same("lowest number of equal estimates", group.carOf(0), 1);
    Checks.same("lowest number of equal estimates", group.carOf(1), 1);
    Checks.same("everyone", group.carOf(2), 1);
    Checks.same("waitingTime", group.waitingTime(0), 3);
    Checks.same("the car acts in the same step", group.floor(1), 1);
  }

  private static void lateComer() {
    LiftGroup group = Scenes.oneCar();
    group.addPassenger(0, 5, 80);
    group.advance(1);
    group.addPassenger(0, 5, 80);
    group.advance(2);
    Checks.same("closed", group.doorSteps(0), 0);
    Checks.yes("nobody boards while the doors stay open", !group.isInCar(1));
    group.advance(1);
    Checks.yes("they open again for the late comer", group.isInCar(1));
    Checks.same("for two steps", group.doorSteps(0), 2);
    Checks.same("doorOpenings", group.doorOpenings(), 2);
    Checks.same("waitingTime", group.waitingTime(1), 3);
  }

  private static void orderOfCars() {
    LiftGroup group = new LiftGroup();
    // All three cars arrive at floor 1 in the same step: the order of the trips is the order of the cars.
    int[] numbers = new int[3];
    for (int car = 2; car >= 0; car--) {
      for (int other = 0; other < 3; other++) {
        if (group.isInService(other)) {
          group.stopCar(other);
        }
      }
      group.startCar(car);
      numbers[car] = group.number(group.addPassenger(0, 1, 50));
      group.advance(1);
      group.stopCar(car);
    }
    for (int car = 0; car < 3; car++) {
      group.startCar(car);
    }
    Checks.same("three trips", group.advance(4), 3);
    for (int car = 0; car < 3; car++) {
      Checks.same("trip of car " + car, group.tripNumber(2 - car), numbers[car]);
      Checks.same("trip of car " + car, group.tripCar(2 - car), car);
    }
  }

  private static void energyByLoad() {
    int[] weights = {99, 100, 150, 50, 1};
    int[] perFloor = {2, 3, 3, 2};
    for (int i = 0; i < perFloor.length; i++) {
      LiftGroup group = Scenes.oneCar();
      group.addPassenger(0, 9, weights[i]);
      group.advance(4);
      Checks.same("energy with " + weights[i], group.energy(0), 1 + perFloor[i]);
    }
    LiftGroup pair = Scenes.oneCar();
    pair.addPassenger(0, 9, 150);
    pair.addPassenger(0, 9, 149);
    pair.advance(4);
    Checks.same("energy with 299", pair.energy(0), 1 + 4);
    LiftGroup down = Scenes.oneCar();
    down.addPassenger(2, 0, 150);
    down.addPassenger(2, 0, 150);
    down.advance(6);
    Checks.same("energy downwards", down.energy(0), 4 + 1 + 1);
  }

  private static void directionAtAStop() {
    LiftGroup group = Scenes.oneCar();
    group.addPassenger(1, 0, 80);
    group.advance(2);
    Checks.same("opening keeps the direction", group.direction(0), 1);
    group.advance(2);
    Checks.same("open doors keep the direction", group.direction(0), 1);
    group.advance(1);
    Checks.same("then it turns", group.direction(0), -1);
    LiftGroup idle = Scenes.oneCar();
    idle.addPassenger(0, 3, 80);
    idle.advance(3);
    Checks.same("an idle car opens and stays idle", idle.direction(0), 0);
  }
}

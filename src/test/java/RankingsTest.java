import java.util.NoSuchElementException;

/** Promises 37 to 50: rankings, the log, totals and the check of the state. */
public final class RankingsTest {
  private static final Class<NoSuchElementException> NONE = NoSuchElementException.class;
  private static final int[] FAR = {-1, 12, Integer.MIN_VALUE, Integer.MAX_VALUE};

  private RankingsTest() {
  }

  public static void main(String[] args) {
    passengerByWaiting();
    carByEnergy();
    carByLoad();
    log();
    longLog();
    totals();
    meanWaiting();
    loadShare();
    isConsistent();
    Checks.end();
  }

  private static void ranks(LiftGroup group, int... due) {
    for (int rank = 0; rank < due.length; rank++) {
      Checks.same("passengerByWaiting " + rank, group.passengerByWaiting(rank), due[rank]);
    }
  }

  private static LiftGroup crowd() {
    LiftGroup group = new LiftGroup();
    group.addPassenger(0, 9, 80);
    group.addPassenger(9, 0, 80);
    group.advance(1);
    group.addPassenger(7, 1, 80);
    group.addPassenger(8, 1, 80);
    return group;
  }

  private static void passengerByWaiting() {
    LiftGroup group = crowd();
    // Number 1 rides, number 2 waits, both with 1 step; the others have 0 steps.
    Checks.yes("rides", group.isInCar(0) && !group.isInCar(1));
    ranks(group, 1, 0, 2, 3);
    group.advance(1);
    // 1, 2, 1, 1: among those with 1 step the waiting ones come first.
    ranks(group, 1, 2, 3, 0);
    group.removePassenger(1);
    ranks(group, 1, 2, 0);
    Checks.refused("no such rank", NONE, LiftGroup::new, g -> g.passengerByWaiting(0));
    Checks.refused("no such rank", NONE, RankingsTest::crowd, g -> g.passengerByWaiting(4));
    for (int rank : FAR) {
      Checks.refused("no such rank", NONE, RankingsTest::crowd, g -> g.passengerByWaiting(rank));
    }
  }

  private static void cars(LiftGroup group, int first, int second, int third) {
    Checks.same("carByEnergy 0", group.carByEnergy(0), first);
    Checks.same("carByEnergy 1", group.carByEnergy(1), second);
    Checks.same("carByEnergy 2", group.carByEnergy(2), third);
  }

  private static void carByEnergy() {
    LiftGroup group = new LiftGroup();
    cars(group, 0, 1, 2);
    group.stopCar(0);
    group.stopCar(1);
    group.addPassenger(3, 0, 80);
    group.advance(1);
    cars(group, 2, 0, 1);
    group.startCar(1);
    group.stopCar(2);
    group.advance(2);
    Checks.same("energy", group.energy(1), 4);
    cars(group, 1, 2, 0);
    for (int rank : new int[] {-1, 3, Integer.MIN_VALUE, Integer.MAX_VALUE}) {
      Checks.refused("no such rank", NONE, LiftGroup::new, g -> g.carByEnergy(rank));
    }
  }

  private static void carByLoad() {
    LiftGroup group = new LiftGroup();
    int[] weights = {50, 70, 60};
    for (int car = 0; car < 3; car++) {
      for (int other = 0; other < 3; other++) {
        if (group.isInService(other) && other != car) {
          group.stopCar(other);
        }
      }
      if (!group.isInService(car)) {
        group.startCar(car);
      }
      group.addPassenger(0, 5, weights[car]);
      group.advance(1);
    }
    Checks.same("equal energies", group.energy(0) + group.energy(1) + group.energy(2), 3);
    cars(group, 1, 2, 0);
  }

  private static void log() {
    LiftGroup group = new LiftGroup();
    group.stopCar(0);
    group.addPassenger(0, 2, 80);
    group.addPassenger(1, 0, 80);
    group.addPassenger(0, 1, 80);
    group.advance(30);
    // Car 1 opens at step 1, is at floor 1 at step 4 and opens at step 5: number 3 leaves, number 2 boards.
    int[] numbers = {2, 1, 3};
    int[] waits = {5, 1, 1};
    Checks.same("tripCount", group.tripCount(), 3);
    for (int recency = 0; recency < 3; recency++) {
      Checks.same("tripNumber " + recency, group.tripNumber(recency), numbers[recency]);
      Checks.same("tripCar " + recency, group.tripCar(recency), 1);
      Checks.same("tripWaiting " + recency, group.tripWaiting(recency), waits[recency]);
    }
    for (int recency : new int[] {-1, 3, 10, Integer.MIN_VALUE, Integer.MAX_VALUE}) {
      noTrip(recency, RankingsTest::threeTrips);
    }
    noTrip(0, LiftGroup::new);
  }

  private static void noTrip(int recency, java.util.function.Supplier<LiftGroup> build) {
    Checks.refused("tripNumber " + recency, NONE, build, g -> g.tripNumber(recency));
    Checks.refused("tripCar " + recency, NONE, build, g -> g.tripCar(recency));
    Checks.refused("tripWaiting " + recency, NONE, build, g -> g.tripWaiting(recency));
  }

  private static LiftGroup threeTrips() {
    return trips(3);
  }

  /** So many trips from floor 0 to floor 1, all at once, but at most four a ride. */
  private static LiftGroup trips(int count) {
    LiftGroup group = new LiftGroup();
    for (int i = 0; i < count; i++) {
      group.addPassenger(0, 1, 100);
    }
    group.advance(30);
    group.advance(30);
    return group;
  }

  private static void longLog() {
    LiftGroup group = trips(12);
    Checks.same("tripCount", group.tripCount(), 12);
    int oldest = group.tripNumber(9);
    Checks.same("the third trip is the oldest remembered one", oldest, 3);
    Checks.same("the latest", group.tripNumber(0), 12);
    noTrip(10, () -> trips(12));
    noTrip(11, () -> trips(12));
  }

  private static void totals() {
    LiftGroup group = new LiftGroup();
    group.addPassenger(2, 0, 150);
    group.addPassenger(3, 5, 120);
    Checks.same("both arrive", group.advance(20), 2);
    Checks.same("energy of the cars", group.totalEnergy(), group.energy(0) + group.energy(1) + group.energy(2));
    // Car 0: 2 up, open; 1 up with 150 (3), open; 2 up with 270 (4 each), open; 5 down, open: 4 + 3 + 8 + 5 + 4.
    Checks.same("totalEnergy", group.totalEnergy(), 24);
    Checks.same("totalEnergyByMoves", group.totalEnergyByMoves(), 24);
    Checks.same("floorsUp", group.floorsUp(), 5);
    Checks.same("floorsDown", group.floorsDown(), 5);
    Checks.same("doorOpenings", group.doorOpenings(), 4);
    group.stopCar(0);
    group.addPassenger(1, 9, 80);
    group.advance(3);
    Checks.same("all cars count", group.floorsUp(), 6);
    Checks.same("all cars count", group.doorOpenings(), 5);
    Checks.same("all cars count", group.totalEnergy(), 27);
    Checks.same("all cars count", group.totalEnergyByMoves(), 27);
  }

  private static void meanWaiting() {
    LiftGroup group = new LiftGroup();
    group.stopCar(0);
    group.addPassenger(0, 2, 80);
    group.addPassenger(1, 0, 80);
    group.addPassenger(0, 1, 80);
    group.advance(30);
    Checks.same("meanWaiting", group.meanWaiting(), 7.0 / 3.0);
    LiftGroup many = trips(12);
    int sum = 0;
    for (int recency = 0; recency < 10; recency++) {
      sum += many.tripWaiting(recency);
    }
    // The two trips that are not remembered were of the first ride, of passengers who waited 1 step.
    Checks.same("all trips so far", many.meanWaiting(), (double) (sum + 2) / 12.0);
    Checks.refused("no trip", ArithmeticException.class, LiftGroup::new, g -> g.meanWaiting());
  }

  private static void loadShare() {
    LiftGroup group = new LiftGroup();
    Checks.same("empty", group.loadShare(0), 0.0f);
    group.addPassenger(0, 9, 70);
    group.setCapacity(0, 300);
    group.advance(1);
    Checks.same("a share", group.loadShare(0), 70.0f / 300.0f);
    Checks.same("another car", group.loadShare(1), 0.0f);
    group.setCapacity(0, 100);
    Checks.same("another share", group.loadShare(0), 0.7f);
    for (int car : Scenes.NO_CARS) {
      Checks.refused("loadShare", IndexOutOfBoundsException.class, LiftGroup::new, g -> g.loadShare(car));
    }
  }

  private static void isConsistent() {
    LiftGroup group = new LiftGroup();
    Checks.yes("new", group.isConsistent());
    for (int i = 0; i < 9; i++) {
      group.addPassenger(i, 9 - i, 60 + 10 * i);
      group.advance(2);
      Checks.yes("on its way", group.isConsistent());
    }
    group.stopCar(1);
    Checks.yes("after a stop", group.isConsistent());
    group.advance(7);
    Checks.yes("later", group.isConsistent());
    group.undo();
    Checks.yes("after undo", group.isConsistent());
    LiftGroup full = new LiftGroup();
    full.setCapacity(0, 100);
    full.addPassenger(0, 5, 100);
    full.advance(1);
    Checks.same("a full car", full.load(0), full.capacity(0));
    Checks.yes("with a full car", full.isConsistent());
  }
}

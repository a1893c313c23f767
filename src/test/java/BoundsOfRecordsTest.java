import java.util.NoSuchElementException;

/** Promises 37 to 53, on both sides of every boundary that their sentences name. */
public final class BoundsOfRecordsTest {
  private static final Class<IndexOutOfBoundsException> INDEX = IndexOutOfBoundsException.class;
  private static final Class<NoSuchElementException> NONE = NoSuchElementException.class;
  private static final int LEAST = Integer.MIN_VALUE;
  private static final int MOST = Integer.MAX_VALUE;

  private BoundsOfRecordsTest() {
  }

  public static void main(String[] args) {
    passengerByWaiting();
    passengersAlike();
    carByEnergy();
    carsAlike();
    log();
    fullLog();
    logOfManyRides();
    tripCount();
    counts();
    energyOfLoads();
    meanWaiting();
    loadShare();
    isConsistent();
    renderCar();
    renderFloors();
    outputAt();
    Checks.end();
  }

  private static void passengerByWaiting() {
    for (int rank : new int[] {-1, 12, LEAST, MOST}) {
      Checks.refusedAlways("passengerByWaiting " + rank, NONE, g -> g.passengerByWaiting(rank));
    }
    Checks.refused("of none", NONE, LiftGroup::new, g -> g.passengerByWaiting(0));
    Checks.refused("when all have left", NONE, () -> Scenes.trips(12), g -> g.passengerByWaiting(0));
    Checks.same("of one", Scenes.waiting(1).passengerByWaiting(0), 0);
    Checks.refused("behind one", NONE, () -> Scenes.waiting(1), g -> g.passengerByWaiting(1));
    Checks.refused("behind three", NONE, Scenes::rich, g -> g.passengerByWaiting(3));
    Checks.refused("behind eleven", NONE, () -> Scenes.waiting(11), g -> g.passengerByWaiting(11));
    // All three have waited one step; index 0 is in a car.
    Checks.same("waiting ones first", Scenes.rich().passengerByWaiting(0), 1);
    Checks.same("then by index", Scenes.rich().passengerByWaiting(1), 2);
    Checks.same("those in cars last", Scenes.rich().passengerByWaiting(2), 0);
    LiftGroup later = Scenes.rich();
    later.addPassenger(0, 9, 10);
    Checks.same("but before a shorter waiting time", later.passengerByWaiting(2), 0);
    Checks.same("none at all", later.passengerByWaiting(3), 3);
  }

  private static void passengersAlike() {
    for (int rank = 0; rank < 12; rank++) {
      Checks.same("twelve alike", Scenes.full().passengerByWaiting(rank), rank);
    }
    LiftGroup riding = Scenes.full();
    riding.advance(2);
    for (int rank = 0; rank < 12; rank++) {
      Checks.same("twelve alike in a car", riding.passengerByWaiting(rank), rank);
    }
    LiftGroup apart = Scenes.noCar();
    for (int i = 0; i < 12; i++) {
      apart.addPassenger(1, 2, 10);
      apart.advance(1);
    }
    apart.removePassenger(0);
    apart.addPassenger(1, 2, 10);
    for (int rank = 0; rank < 12; rank++) {
      Checks.same("twelve apart by one step", apart.passengerByWaiting(rank), rank);
    }
  }

  private static void cars(String what, LiftGroup group, int first, int second, int third) {
    Checks.same(what + ", rank 0", group.carByEnergy(0), first);
    Checks.same(what + ", rank 1", group.carByEnergy(1), second);
    Checks.same(what + ", rank 2", group.carByEnergy(2), third);
  }

  private static void carByEnergy() {
    for (int rank : new int[] {-1, 3, LEAST, MOST}) {
      Checks.refusedAlways("carByEnergy " + rank, NONE, g -> g.carByEnergy(rank));
    }
    cars("initially", new LiftGroup(), 0, 1, 2);
    cars("one has energy", Scenes.rich(), 0, 1, 2);
    // A floor up takes 2 units, a floor down 1, an opening 1.
    LiftGroup group = Scenes.noCar();
    group.startCar(2);
    group.addPassenger(9, 0, 10);
    group.advance(1);
    cars("2 for car 2", group, 2, 0, 1);
    group.stopCar(2);
    group.startCar(1);
    group.advance(1);
    cars("2 for car 1 too", group, 1, 2, 0);
    group.advance(1);
    cars("4 for car 1", group, 1, 2, 0);
    group.stopCar(1);
    group.startCar(2);
    group.removePassenger(0);
    group.addPassenger(0, 9, 10);
    group.advance(1);
    Checks.same("one unit less", group.energy(2), 3);
    cars("one unit less", group, 1, 2, 0);
    group.advance(1);
    Checks.same("the same energy", group.energy(2), 4);
    cars("the same energy, but a load", group, 2, 1, 0);
  }

  private static void carsAlike() {
    cars("alike in all", Scenes.allOpen(), 0, 1, 2);
    LiftGroup group = Scenes.noCar();
    int[] weights = {50, 50, 51};
    for (int car = 2; car >= 0; car--) {
      group.startCar(car);
      group.addPassenger(0, 5, weights[car]);
    }
    group.advance(1);
    Checks.same("equal energies", group.totalEnergy(), 3);
    cars("one kilogram more", group, 2, 0, 1);
    LiftGroup laden = Scenes.noCar();
    laden.startCar(2);
    laden.addPassenger(0, 5, 50);
    laden.advance(4);
    laden.stopCar(2);
    laden.startCar(0);
    laden.addPassenger(0, 5, 150);
    laden.advance(1);
    Checks.same("more energy", laden.energy(2) - laden.energy(0), 2);
    Checks.same("but less load", laden.load(2) - laden.load(0), -100);
    cars("energy comes first", laden, 2, 0, 1);
  }

  private static void noTrip(String what, int recency, int trips) {
    Checks.refused("tripNumber " + what, NONE, () -> Scenes.trips(trips), g -> g.tripNumber(recency));
    Checks.refused("tripCar " + what, NONE, () -> Scenes.trips(trips), g -> g.tripCar(recency));
    Checks.refused("tripWaiting " + what, NONE, () -> Scenes.trips(trips), g -> g.tripWaiting(recency));
  }

  private static void log() {
    for (int trips = 0; trips <= 12; trips++) {
      LiftGroup group = Scenes.trips(trips);
      int remembered = Math.min(trips, 10);
      for (int recency = 0; recency < remembered; recency++) {
        Checks.same("tripNumber of " + trips, group.tripNumber(recency), trips - recency);
        Checks.same("tripCar of " + trips, group.tripCar(recency), 0);
        Checks.same("tripWaiting of " + trips, group.tripWaiting(recency), 1);
      }
      noTrip("behind the last of " + trips, remembered, trips);
      noTrip("far behind the last of " + trips, remembered + 1, trips);
    }
    for (int recency : new int[] {-1, -10, 10, 11, 12, LEAST, MOST}) {
      noTrip("with an empty log, " + recency, recency, 0);
      noTrip("with a full log, " + recency, recency, 10);
      noTrip("with more trips than the log remembers, " + recency, recency, 12);
    }
  }

  /** Number 1 makes a trip of its own in car 2, with 5 steps of waiting; the others follow in car 0, with 1 step. */
  private static LiftGroup firstAndOthers(int others) {
    LiftGroup group = Scenes.noCar();
    group.addPassenger(0, 1, 10);
    group.advance(4);
    group.startCar(2);
    group.advance(5);
    group.stopCar(2);
    group.startCar(0);
    for (int i = 0; i < others; i++) {
      group.addPassenger(0, 1, 10);
    }
    group.advance(5);
    return group;
  }

  private static void fullLog() {
    LiftGroup full = firstAndOthers(9);
    Checks.same("the oldest of ten", full.tripNumber(9), 1);
    Checks.same("its car", full.tripCar(9), 2);
    Checks.same("its waiting time", full.tripWaiting(9), 5);
    LiftGroup more = firstAndOthers(10);
    Checks.same("the eleventh forgets the first", more.tripNumber(9), 2);
    Checks.same("its car", more.tripCar(9), 0);
    Checks.same("its waiting time", more.tripWaiting(9), 1);
    Checks.same("the latest", more.tripNumber(0), 11);
    Checks.refused("no eleventh", NONE, () -> firstAndOthers(10), g -> g.tripNumber(10));
    Checks.same("but it still counts", more.tripCount(), 11);
    Checks.same("and its waiting time too", more.meanWaiting(), 15.0 / 11.0);
  }

  private static void logOfManyRides() {
    LiftGroup group = Scenes.oneCar();
    for (int ride = 1; ride <= 25; ride++) {
      int floor = group.floor(0);
      group.addPassenger(floor, 1 - floor, 10);
      group.advance(7);
      Checks.same("tripCount", group.tripCount(), ride);
      Checks.same("the latest", group.tripNumber(0), ride);
      Checks.same("the oldest", group.tripNumber(Math.min(ride, 10) - 1), Math.max(1, ride - 9));
    }
  }

  private static void tripCount() {
    Checks.same("none", new LiftGroup().tripCount(), 0);
    LiftGroup group = new LiftGroup();
    group.addPassenger(0, 1, 10);
    group.advance(4);
    Checks.same("a step before the first", group.tripCount(), 0);
    group.advance(1);
    Checks.same("the first", group.tripCount(), 1);
    Checks.same("twelve", Scenes.trips(12).tripCount(), 12);
    LiftGroup removed = Scenes.full();
    removed.removePassenger(0);
    Checks.same("a removal is no trip", removed.tripCount(), 0);
  }

  private static void counts() {
    LiftGroup group = new LiftGroup();
    Checks.same("floorsUp", group.floorsUp(), 0);
    Checks.same("floorsDown", group.floorsDown(), 0);
    Checks.same("doorOpenings", group.doorOpenings(), 0);
    Checks.same("totalEnergy", group.totalEnergy(), 0L);
    Checks.same("totalEnergyByMoves", group.totalEnergyByMoves(), 0L);
    LiftGroup all = Scenes.allOpen();
    Checks.same("each car opens", all.doorOpenings(), 3);
    all.advance(3);
    Checks.same("each car moves up", all.floorsUp(), 3);
    Checks.same("and none down", all.floorsDown(), 0);
    Checks.same("totalEnergy", all.totalEnergy(), 9L);
    Checks.same("totalEnergyByMoves", all.totalEnergyByMoves(), 9L);
    LiftGroup down = Scenes.idleAt(3);
    down.addPassenger(0, 9, 10);
    down.advance(3);
    Checks.same("floorsUp", down.floorsUp(), 3);
    Checks.same("floorsDown", down.floorsDown(), 3);
    Checks.same("no opening yet", down.doorOpenings(), 0);
    down.advance(1);
    Checks.same("one opening", down.doorOpenings(), 1);
    Checks.same("totalEnergy", down.totalEnergy(), 10L);
    Checks.same("totalEnergyByMoves", down.totalEnergyByMoves(), 10L);
  }

  /** Car 0, alone in service, with this load from a floor to another; it opens once before it moves. */
  private static LiftGroup laden(int load, int from, int to) {
    LiftGroup group = Scenes.oneCar();
    group.setCapacity(0, 900);
    for (int left = load; left > 0; ) {
      int weight = left >= 160 || left <= 150 ? Math.min(left, 150) : 100;
      group.addPassenger(from, to, weight);
      left -= weight;
    }
    return group;
  }

  private static void energyOfLoads() {
    for (int hundreds = 0; hundreds <= 9; hundreds++) {
      for (int load : new int[] {100 * hundreds - 1, 100 * hundreds, 100 * hundreds + 1}) {
        if (load < 10 || load > 900) {
          continue;
        }
        LiftGroup up = laden(load, 0, 9);
        up.advance(4);
        Checks.same("a floor up with " + load, up.energy(0), 1 + 2 + load / 100);
        Checks.same("by moves with " + load, up.totalEnergyByMoves(), 1 + 2 + load / 100);
        up.advance(1);
        Checks.same("two floors up with " + load, up.energy(0), 1 + 2 * (2 + load / 100));
        LiftGroup down = laden(load, 1, 0);
        down.advance(5);
        Checks.same("a floor down with " + load, down.energy(0), 2 + 1 + 1);
        Checks.same("by moves with " + load, down.totalEnergyByMoves(), 2 + 1 + 1);
      }
    }
  }

  private static void meanWaiting() {
    Class<ArithmeticException> arithmetic = ArithmeticException.class;
    Checks.refused("no trip", arithmetic, LiftGroup::new, g -> g.meanWaiting());
    Checks.refused("no trip yet", arithmetic, Scenes::full, g -> g.meanWaiting());
    Checks.refused("a step before the first", arithmetic, () -> inCarAfter(4), g -> g.meanWaiting());
    Checks.same("of one trip", inCarAfter(5).meanWaiting(), 1.0);
    Checks.same("of two trips, after forgetting none", firstAndOthers(1).meanWaiting(), 3.0);
    Checks.same("of ten trips", firstAndOthers(9).meanWaiting(), 14.0 / 10.0);
    Checks.same("of twelve trips", firstAndOthers(11).meanWaiting(), 16.0 / 12.0);
    LiftGroup undone = inCarAfter(5);
    undone.undo();
    try {
      undone.meanWaiting();
      Checks.report("meanWaiting after undo of the only trip");
    } catch (ArithmeticException e) {
      Checks.same("no trip again", undone.tripCount(), 0);
    }
  }

  private static LiftGroup inCarAfter(int steps) {
    LiftGroup group = new LiftGroup();
    group.addPassenger(0, 1, 10);
    group.advance(steps);
    return group;
  }

  private static void loadShare() {
    for (int car = 0; car < 3; car++) {
      Checks.same("empty", new LiftGroup().loadShare(car), 0.0f);
      Checks.same("an eighth", Scenes.allOpen().loadShare(car), 0.125f);
    }
    Checks.same("twelve who wait for it are no load", Scenes.full().loadShare(0), 0.0f);
    Checks.same("full", Scenes.heaviest().loadShare(0), 1.0f);
    LiftGroup smallest = Scenes.boarded(100);
    smallest.setCapacity(0, 100);
    Checks.same("full with the smallest capacity", smallest.loadShare(0), 1.0f);
    LiftGroup least = Scenes.boarded(10);
    least.setCapacity(0, 900);
    Checks.same("the smallest share but none", least.loadShare(0), 10.0f / 900.0f);
    Checks.yes("as a float", (double) least.loadShare(0) != 10.0 / 900.0);
    for (int car : Scenes.NO_CARS) {
      Checks.refusedAlways("loadShare of car " + car, INDEX, g -> g.loadShare(car));
    }
  }

  private static void isConsistent() {
    Checks.yes("nothing there", new LiftGroup().isConsistent());
    Checks.yes("something of everything", Scenes.rich().isConsistent());
    Checks.yes("twelve passengers", Scenes.full().isConsistent());
    Checks.yes("load and capacity the same", Scenes.heaviest().isConsistent());
    Checks.yes("no car in service", Scenes.noCar().isConsistent());
    LiftGroup stopped = Scenes.full();
    stopped.stopCar(0);
    Checks.yes("twelve released", stopped.isConsistent());
    LiftGroup limited = Scenes.boarded(100);
    limited.setCapacity(0, 100);
    Checks.yes("the smallest capacity used up", limited.isConsistent());
    Checks.yes("after twelve trips", Scenes.trips(12).isConsistent());
    LiftGroup undone = Scenes.heaviest();
    undone.undo();
    Checks.yes("after undo", undone.isConsistent());
  }

  private static void shows(String what, LiftGroup group, int car, String due) {
    int length = group.renderCar(car);
    Checks.same("renderCar: " + what + ", length", length, due.length());
    Checks.same("renderCar: " + what, Checks.output(group, length), due);
  }

  private static void renderCar() {
    shows("first car", new LiftGroup(), 0, "0@0-0/0|");
    shows("last car", new LiftGroup(), 2, "2@0-0/0|");
    shows("out of service", Scenes.noCar(), 2, "2@0-0/0|x");
    shows("open", Scenes.rich(), 0, "0@1-1/150o");
    shows("the largest load", Scenes.heaviest(), 0, "0@0-6/900o");
    LiftGroup group = Scenes.full();
    group.advance(1);
    shows("a step before opening", group, 0, "0@1^0/0|");
    group.advance(1);
    shows("twelve", group, 0, "0@1^12/120o");
    group.advance(1);
    shows("a step before closing", group, 0, "0@1^12/120o");
    group.stopCar(0);
    shows("open and out of service", group, 0, "0@1^12/120ox");
    group.startCar(0);
    group.advance(1);
    shows("closed", group, 0, "0@1^12/120|");
    LiftGroup top = Scenes.oneCar();
    top.addPassenger(9, 0, 10);
    top.advance(12);
    shows("the highest floor", top, 0, "0@9^1/10|");
    top.advance(9);
    shows("the lowest floor", top, 0, "0@0v1/10|");
    for (int car : Scenes.NO_CARS) {
      Checks.refusedAlways("renderCar of car " + car, INDEX, g -> g.renderCar(car));
    }
  }

  private static void renderFloors() {
    String due = "0,0,0,0,0,0,0,0,0,0";
    for (int waiting : new int[] {0, 1, 9, 10, 12}) {
      LiftGroup group = Scenes.waiting(waiting);
      String text = due.replaceFirst("0,0", "0," + waiting);
      Checks.same("length with " + waiting, group.renderFloors(), waiting < 10 ? 19 : 20);
      Checks.same("renderFloors with " + waiting, Checks.output(group, text.length()), text);
    }
    LiftGroup ends = Scenes.noCar();
    ends.addPassenger(0, 9, 10);
    ends.addPassenger(9, 0, 10);
    ends.addPassenger(9, 0, 10);
    Checks.same("length", ends.renderFloors(), 19);
    Checks.same("the first and the last floor", Checks.output(ends, 19), "1,0,0,0,0,0,0,0,0,2");
  }

  private static void outputAt() {
    for (int index : new int[] {-1, 20, LEAST, MOST}) {
      Checks.refusedAlways("outputAt " + index, INDEX, g -> g.outputAt(index));
    }
    Checks.refused("of an empty text", INDEX, LiftGroup::new, g -> g.outputAt(0));
    Checks.same("the first", Scenes.rich().outputAt(0), '0');
    Checks.same("the last", Scenes.rich().outputAt(9), 'o');
    Checks.refused("behind the last", INDEX, Scenes::rich, g -> g.outputAt(10));
    Checks.same("the last of the longer text", floorsShown().outputAt(18), '0');
    Checks.refused("behind it", INDEX, BoundsOfRecordsTest::floorsShown, g -> g.outputAt(19));
    LiftGroup longest = Scenes.waiting(12);
    longest.renderFloors();
    Checks.same("the last of the longest text", longest.outputAt(19), '0');
    longest.renderCar(0);
    Checks.same("the last of a shorter one", longest.outputAt(7), '|');
    Checks.refused("what was longer is gone", INDEX, BoundsOfRecordsTest::carShownAfterFloors, g -> g.outputAt(8));
    Checks.refused("what was longer is gone", INDEX, BoundsOfRecordsTest::carShownAfterFloors, g -> g.outputAt(18));
  }

  private static LiftGroup floorsShown() {
    LiftGroup group = Scenes.rich();
    group.renderFloors();
    return group;
  }

  private static LiftGroup carShownAfterFloors() {
    LiftGroup group = floorsShown();
    group.renderCar(1);
    group.startCar(1);
    group.renderCar(1);
    return group;
  }
}

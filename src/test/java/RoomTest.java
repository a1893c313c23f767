import com.sun.management.ThreadMXBean;
import java.lang.management.ManagementFactory;
import java.util.function.Supplier;

/**
 * All calls of one run live in one room, so what they make is counted, in bytes: the rows of an object are made once,
 * in its constructor, and calls make nothing but their exceptions.
 */
public final class RoomTest {
  private static final ThreadMXBean THREADS = (ThreadMXBean) ManagementFactory.getThreadMXBean();
  private static final int OBJECTS = 200;
  private static final int TIMES = 4;
  /** Less than the smallest object for each use. */
  private static final long SMALL = 16L * OBJECTS * TIMES - 1;

  private RoomTest() {
  }

  public static void main(String[] args) {
    Checks.yes("an object takes less than 30,000 bytes", taken(LiftGroup::new) < 30_000);
    small("estimates", Scenes::crossing, g -> g.estimate(2, 0) + g.estimateByWalk(2, 0) + g.bestCar(0, 10));
    small("isConsistent", Scenes::crossing, g -> g.isConsistent() ? 1 : 0);
    small("predictions", Scenes::full, g -> g.stepsUntilArrival(11) + g.tripsWithin(90));
    small("rankings", Scenes::full, g -> g.passengerByWaiting(11) + g.carByEnergy(2));
    small("advance", Scenes::full, g -> g.advance(30));
    small("setCapacity", Scenes::full, g -> g.setCapacity(0, 900));
    small("save and restore", Scenes::full, g -> g.save() + g.restore());
    small("rendered texts", Scenes::crossing, g -> g.renderFloors() + g.renderCar(1));
    small("scripts", LiftGroup::new, RoomTest::longScript);
    small("added and removed", LiftGroup::new, g -> g.addPassenger(1, 2, 50) + g.removePassenger(0));
    Checks.end();
  }

  private interface Use {
    int of(LiftGroup group);
  }

  private static int longScript(LiftGroup group) {
    for (int i = 0; i < 11; i++) {
      group.type('s');
      group.type('t');
      group.type('e');
      group.type('p');
      if (i < 10) {
        group.type(';');
      }
    }
    return group.runScript();
  }

  /** The bytes of one answer, after a first one, which loads what is to be loaded. */
  private static long taken(Supplier<LiftGroup> build) {
    build.get();
    long before = THREADS.getCurrentThreadAllocatedBytes();
    build.get();
    return THREADS.getCurrentThreadAllocatedBytes() - before;
  }

  /** Objects that have been used once, so that their texts have grown, are used some times more. */
  private static void small(String what, Supplier<LiftGroup> build, Use use) {
    LiftGroup[] groups = new LiftGroup[OBJECTS];
    int sum = 0;
    for (int i = 0; i < OBJECTS; i++) {
      groups[i] = build.get();
      sum += use.of(groups[i]);
    }
    long before = THREADS.getCurrentThreadAllocatedBytes();
    for (int i = 0; i < OBJECTS * TIMES; i++) {
      sum += use.of(groups[i % OBJECTS]);
    }
    long bytes = THREADS.getCurrentThreadAllocatedBytes() - before;
    Checks.yes(what + ": at most " + SMALL + " bytes for " + bytes + " (sum " + sum + ")", bytes <= SMALL);
  }
}

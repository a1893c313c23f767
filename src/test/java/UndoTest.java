/** Promises 58 to 60: undo and the snapshot. */
public final class UndoTest {
  private static final Class<IllegalStateException> STATE = IllegalStateException.class;

  private UndoTest() {
  }

  public static void main(String[] args) {
    everyChange();
    eightChanges();
    noChanges();
    log();
    overwrittenLog();
    snapshot();
    afterRestore();
    Checks.end();
  }

  /** Car 0 has opened for number 1; car 2 is out of service; number 2 waits. */
  private static LiftGroup start() {
    LiftGroup group = new LiftGroup();
    group.addPassenger(0, 5, 80);
    group.stopCar(2);
    group.advance(1);
    group.addPassenger(4, 2, 90);
    return group;
  }

  private static void undone(String what, Checks.Call change) {
    LiftGroup group = start();
    change.on(group);
    Checks.same("undo of " + what, group.undo(), 4);
    Checks.same("undo of " + what, Checks.portrait(group), Checks.portrait(start()));
    // The object goes on like one without the change.
    LiftGroup twin = start();
    Checks.same("trips after undo of " + what, group.advance(30), twin.advance(30));
    Checks.same("later, after undo of " + what, Checks.portrait(group), Checks.portrait(twin));
  }

  private static void everyChange() {
    undone("addPassenger", g -> g.addPassenger(1, 2, 50));
    undone("removePassenger", g -> g.removePassenger(1));
    undone("holdDoors", g -> g.holdDoors(0, 3));
    undone("holdDoors without effect", g -> g.holdDoors(0, 2));
    undone("stopCar", g -> g.stopCar(0));
    undone("startCar", g -> g.startCar(2));
    undone("setCapacity", g -> g.setCapacity(0, 100));
    undone("setCapacity without effect", g -> g.setCapacity(0, 400));
    undone("advance", g -> g.advance(1));
    undone("a long advance", g -> g.advance(30));
    undone("runScript", g -> {
      Checks.type(g, "call 1 2 50;limit 0 100;step 20;stop 0");
      g.runScript();
    });
    LiftGroup group = new LiftGroup();
    group.addPassenger(1, 2, 50);
    group.undo();
    Checks.same("the number is free again", group.number(group.addPassenger(1, 2, 50)), 1);
  }

  private static LiftGroup changed(int changes) {
    LiftGroup group = new LiftGroup();
    for (int i = 0; i < changes; i++) {
      group.setCapacity(0, 101 + i);
    }
    return group;
  }

  private static void eightChanges() {
    for (int changes : new int[] {1, 7, 8, 9, 20}) {
      LiftGroup group = changed(changes);
      int undoable = Math.min(changes, 8);
      for (int left = undoable - 1; left >= 0; left--) {
        Checks.same("undo of " + changes, group.undo(), left);
        int done = changes - undoable + left;
        Checks.same("capacity", group.capacity(0), done == 0 ? 400 : 100 + done);
      }
      Checks.same("nothing left", tryUndo(group), -1);
      Checks.same("nothing left", group.capacity(0), changes <= 8 ? 400 : 100 + changes - 8);
    }
    Checks.refused("nothing to undo", STATE, LiftGroup::new, g -> g.undo());
    LiftGroup group = changed(8);
    group.undo();
    group.undo();
    group.setCapacity(0, 500);
    Checks.same("after another change", group.undo(), 6);
    Checks.same("after another change", group.capacity(0), 106);
    Checks.same("the one before", group.undo(), 5);
    Checks.same("the one before", group.capacity(0), 105);
  }

  private static int tryUndo(LiftGroup group) {
    try {
      return group.undo();
    } catch (IllegalStateException e) {
      return -1;
    }
  }

  private static void noChanges() {
    LiftGroup group = changed(1);
    Checks.type(group, "step;step 0");
    try {
      group.runScript();
    } catch (IllegalStateException e) {
      Checks.same("failedCommand", group.failedCommand(), 1);
    }
    try {
      group.advance(0);
    } catch (IllegalArgumentException e) {
      Checks.same("time", group.time(), 0);
    }
    group.save();
    group.renderCar(0);
    group.tripsWithin(90);
    group.type('x');
    Checks.same("only changes are undone", group.undo(), 0);
    Checks.same("the change", group.capacity(0), 400);
    Checks.same("undo leaves the buffer", group.type('y'), 2);
  }

  private static void log() {
    LiftGroup group = new LiftGroup();
    group.addPassenger(0, 1, 80);
    group.advance(10);
    group.save();
    group.addPassenger(2, 1, 80);
    group.advance(20);
    Checks.same("tripCount", group.tripCount(), 2);
    Checks.same("tripNumber", group.tripNumber(0), 2);
    double mean = group.meanWaiting();
    group.undo();
    Checks.same("tripCount", group.tripCount(), 1);
    Checks.same("the log goes back too", group.tripNumber(0), 1);
    Checks.same("meanWaiting", group.meanWaiting(), 1.0);
    group.advance(20);
    Checks.same("and on again", group.meanWaiting(), mean);
    group.restore();
    Checks.same("the log of the snapshot", group.tripNumber(0), 1);
    Checks.same("its trips", group.tripCount(), 1);
    Checks.same("its mean", group.meanWaiting(), 1.0);
  }

  private static void overwrittenLog() {
    LiftGroup group = new LiftGroup();
    group.stopCar(1);
    group.addPassenger(0, 1, 100);
    group.addPassenger(0, 1, 100);
    group.addPassenger(0, 1, 100);
    Checks.same("three trips", group.advance(30), 3);
    group.save();
    for (int i = 0; i < 12; i++) {
      group.addPassenger(1, 2, 30);
    }
    Checks.same("twelve trips", group.advance(30), 12);
    Checks.same("the earlier ones are forgotten", group.tripNumber(9), 6);
    Checks.same("undo", group.undo(), 7);
    firstTrips(group);
    group.advance(30);
    group.restore();
    firstTrips(group);
  }

  private static void firstTrips(LiftGroup group) {
    for (int recency = 0; recency < 3; recency++) {
      Checks.same("tripNumber", group.tripNumber(recency), 3 - recency);
      Checks.same("tripCar", group.tripCar(recency), 0);
      Checks.same("tripWaiting", group.tripWaiting(recency), 1);
    }
  }

  private static void snapshot() {
    LiftGroup group = start();
    Checks.same("save", group.save(), 2);
    group.removePassenger(1);
    group.advance(30);
    Checks.same("passengerCount", group.passengerCount(), 0);
    Checks.same("restore", group.restore(), 2);
    Checks.same("the state", Checks.portrait(group), Checks.portrait(start()));
    Checks.same("nothing to undo", tryUndo(group), -1);
    group.advance(3);
    Checks.same("the snapshot is kept", group.restore(), 2);
    Checks.same("the state again", Checks.portrait(group), Checks.portrait(start()));
    LiftGroup twin = start();
    Checks.same("it goes on alike", group.advance(25), twin.advance(25));
    Checks.same("it goes on alike", Checks.portrait(group), Checks.portrait(twin));
    Checks.refused("no snapshot", STATE, UndoTest::start, g -> g.restore());
    LiftGroup empty = new LiftGroup();
    Checks.same("an empty building", empty.save(), 0);
    empty.addPassenger(1, 2, 30);
    Checks.same("an empty building", empty.restore(), 0);
  }

  private static void afterRestore() {
    LiftGroup group = changed(8);
    group.save();
    Checks.same("save leaves what can be undone", group.undo(), 7);
    group.setCapacity(1, 300);
    group.save();
    Checks.same("undo leaves the snapshot", group.undo(), 7);
    group.restore();
    Checks.same("a later save replaces an earlier one", group.capacity(1), 300);
    Checks.same("nothing to undo", tryUndo(group), -1);
    group.setCapacity(1, 200);
    Checks.same("only the change since", group.undo(), 0);
    Checks.same("back to the snapshot", group.capacity(1), 300);
    Checks.same("and no further", tryUndo(group), -1);
  }
}

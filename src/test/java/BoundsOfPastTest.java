import java.util.LinkedHashMap;
import java.util.Map;

/** Promises 58 to 60, on both sides of every boundary that their sentences name. */
public final class BoundsOfPastTest {
  private static final Class<IllegalStateException> STATE = IllegalStateException.class;

  private BoundsOfPastTest() {
  }

  public static void main(String[] args) {
    countsOfUndo();
    ninthChangeOfEachKind();
    changesWithoutEffect();
    changesAfterUndo();
    refusedCallsForgetNothing();
    numbersAfterUndo();
    fullLogAfterUndo();
    fullLogAfterRestore();
    movingCars();
    fullBuildingAfterUndo();
    whatUndoLeaves();
    save();
    restore();
    restoreForgets();
    Checks.end();
  }

  private static int tryUndo(LiftGroup group) {
    try {
      return group.undo();
    } catch (IllegalStateException e) {
      return -1;
    }
  }

  private static void countsOfUndo() {
    Checks.refused("nothing to undo", STATE, LiftGroup::new, g -> g.undo());
    for (int changes = 1; changes <= 26; changes++) {
      LiftGroup group = Scenes.changes(changes);
      int kept = Math.min(changes, 8);
      for (int left = kept - 1; left >= 0; left--) {
        int now = changes - kept + left;
        Checks.same("undo after " + changes, group.undo(), left);
        Checks.same("the capacity before it", group.capacity(0), now == 0 ? 400 : 100 + now);
      }
      int all = changes;
      Checks.refused("all undone of " + changes, STATE, () -> undone(Scenes.changes(all), Math.min(all, 8)),
          g -> g.undo());
    }
  }

  private static LiftGroup undone(LiftGroup group, int times) {
    for (int i = 0; i < times; i++) {
      group.undo();
    }
    return group;
  }

  /** A scene in which every kind of change is allowed, and which is itself made by eight changes. */
  private static LiftGroup eight() {
    LiftGroup group = new LiftGroup();
    group.stopCar(1);
    group.addPassenger(0, 5, 80);
    group.setCapacity(2, 300);
    group.setCapacity(2, 301);
    group.setCapacity(2, 302);
    group.setCapacity(2, 303);
    group.advance(1);
    group.addPassenger(4, 2, 90);
    return group;
  }

  private static Map<String, Checks.Call> everyChange() {
    Map<String, Checks.Call> changes = new LinkedHashMap<>();
    changes.put("addPassenger", g -> g.addPassenger(1, 2, 50));
    changes.put("removePassenger", g -> g.removePassenger(1));
    changes.put("holdDoors", g -> g.holdDoors(0, 3));
    changes.put("stopCar", g -> g.stopCar(0));
    changes.put("startCar", g -> g.startCar(1));
    changes.put("setCapacity", g -> g.setCapacity(0, 100));
    changes.put("advance", g -> g.advance(30));
    changes.put("runScript", g -> Scenes.run(g, "call 1 2 50;step 30;stop 0;limit 1 100"));
    return changes;
  }

  private static void ninthChangeOfEachKind() {
    Checks.same("eight changes", eight().undo(), 7);
    everyChange().forEach((name, change) -> {
      LiftGroup group = eight();
      change.on(group);
      Checks.yes(name + " shows", !Checks.portrait(group).equals(Checks.portrait(eight())));
      Checks.same("undo of " + name, group.undo(), 7);
      Checks.same("undo of " + name, Checks.portrait(group), Checks.portrait(eight()));
      Checks.same("seven more", undone(group, 6).undo(), 0);
      Checks.yes("the ninth change forgets the first", !group.isInService(1));
      Checks.same("but not the second", group.passengerCount(), 0);
      Checks.same("nothing left after " + name, tryUndo(group), -1);
      Checks.yes("nothing left after " + name, !group.isInService(1));
    });
  }

  private static void changesWithoutEffect() {
    Map<String, Checks.Call> changes = new LinkedHashMap<>();
    changes.put("setCapacity", g -> g.setCapacity(2, 303));
    changes.put("holdDoors", g -> g.holdDoors(0, 2));
    changes.put("runScript", g -> Scenes.run(g, "stop 0;start 0"));
    changes.forEach((name, change) -> {
      LiftGroup group = eight();
      change.on(group);
      Checks.same(name + " without effect", Checks.portrait(group), Checks.portrait(eight()));
      Checks.same("it is undone all the same", group.undo(), 7);
      Checks.same("and nothing else with it", Checks.portrait(group), Checks.portrait(eight()));
      undone(group, 7);
      Checks.yes("it has forgotten the first change", !group.isInService(1));
    });
  }

  private static void changesAfterUndo() {
    for (int undone = 1; undone <= 8; undone++) {
      LiftGroup group = undone(Scenes.changes(12), undone);
      group.setCapacity(1, 500);
      Checks.same("one more after " + undone, group.undo(), 8 - undone);
      Checks.same("it is undone first", group.capacity(1), 400);
      Checks.same("back to where it was made", group.capacity(0), 112 - undone);
      Checks.same("those before it", tryUndo(group), 7 - undone);
      Checks.same("those before it", group.capacity(0), undone == 8 ? 104 : 111 - undone);
    }
    LiftGroup refilled = undone(Scenes.changes(8), 8);
    for (int i = 1; i <= 9; i++) {
      refilled.setCapacity(2, 200 + i);
    }
    Checks.same("eight again", undone(refilled, 7).undo(), 0);
    Checks.same("the first of nine is forgotten again", refilled.capacity(2), 201);
  }

  private static void refusedCallsForgetNothing() {
    LiftGroup group = Scenes.changes(8);
    Checks.Call[] calls = {g -> g.addPassenger(1, 1, 50), g -> g.removePassenger(0), g -> g.holdDoors(0, 1),
        g -> g.stopCar(3), g -> g.startCar(0), g -> g.setCapacity(0, 901), g -> g.advance(31), g -> g.restore(),
        g -> g.runScript(), g -> g.type((char) 127)};
    for (Checks.Call call : calls) {
      try {
        call.on(group);
        Checks.report("a call is not refused");
      } catch (RuntimeException e) {
        Checks.same("the state after it", group.capacity(0), 108);
      }
    }
    Scenes.run(group, "step;step 0");
    group.save();
    group.tripsWithin(90);
    group.renderFloors();
    group.type('s');
    Checks.same("all eight are there", undone(group, 7).undo(), 0);
    Checks.same("the first is undone", group.capacity(0), 400);
  }

  private static void numbersAfterUndo() {
    LiftGroup group = Scenes.full();
    undone(group, 8);
    Checks.same("four are left", group.passengerCount(), 4);
    Checks.same("the counter has gone back too", group.number(group.addPassenger(3, 4, 50)), 5);
    LiftGroup removed = Scenes.waiting(2);
    removed.removePassenger(0);
    removed.undo();
    Checks.same("the first is back", removed.number(0), 1);
    Checks.same("the second behind it", removed.number(1), 2);
  }

  private static void fullLogAfterUndo() {
    LiftGroup group = Scenes.trips(10);
    group.addPassenger(1, 0, 20);
    Checks.same("the eleventh trip", group.advance(7), 1);
    Checks.same("forgets the first", group.tripNumber(9), 2);
    group.undo();
    Checks.same("which is back after undo", group.tripNumber(9), 1);
    Checks.same("with the count", group.tripCount(), 10);
    Checks.same("and the mean", group.meanWaiting(), 1.0);
    Checks.same("the latest is gone", group.tripNumber(0), 10);
    Checks.same("and comes again", group.advance(7), 1);
    Checks.same("and comes again", group.tripNumber(0), 11);
    LiftGroup first = undone(Scenes.trips(1), 1);
    Checks.same("no trip again", first.tripCount(), 0);
    Checks.refused("no trip again", java.util.NoSuchElementException.class, () -> undone(Scenes.trips(1), 1),
        g -> g.tripNumber(0));
  }

  /** Ten trips of car 2, which waited five steps, then twelve of car 0, which waited one. */
  private static void fullLogAfterRestore() {
    LiftGroup group = Scenes.noCar();
    for (int i = 0; i < 10; i++) {
      group.addPassenger(0, 1, 10);
    }
    group.advance(4);
    group.startCar(2);
    Checks.same("ten trips", group.advance(5), 10);
    group.stopCar(2);
    group.startCar(0);
    group.save();
    String before = Checks.portrait(group);
    for (int i = 0; i < 12; i++) {
      group.addPassenger(0, 1, 10);
    }
    Checks.same("twelve trips forget them all", group.advance(5), 12);
    Checks.same("car", group.tripCar(9), 0);
    Checks.same("waiting time", group.tripWaiting(9), 1);
    undone(group, 1);
    Checks.same("undo brings them back", group.tripNumber(9), 1);
    Checks.same("with their car", group.tripCar(9), 2);
    Checks.same("and their waiting time", group.tripWaiting(9), 5);
    Checks.same("and forgets the others", group.advance(5), 12);
    group.restore();
    Checks.same("restore brings them back", Checks.portrait(group), before);
    Checks.same("with their car", group.tripCar(9), 2);
    Checks.same("and their waiting time", group.tripWaiting(9), 5);
  }

  /** Cars in each direction, as undo and restore find them. */
  private static void movingCars() {
    LiftGroup group = Scenes.boarded(80);
    group.stopCar(1);
    group.addPassenger(9, 0, 10);
    group.advance(5);
    Checks.same("upwards", group.direction(0) + group.direction(2), 2);
    group.save();
    String upwards = Checks.portrait(group);
    group.advance(10);
    Checks.same("downwards", group.direction(2), -1);
    String downwards = Checks.portrait(group);
    group.advance(30);
    Checks.same("idle", group.direction(0), 0);
    group.undo();
    Checks.same("undo, downwards", Checks.portrait(group), downwards);
    group.undo();
    Checks.same("undo, upwards", Checks.portrait(group), upwards);
    group.advance(30);
    group.restore();
    Checks.same("restore, upwards", Checks.portrait(group), upwards);
  }

  private static void fullBuildingAfterUndo() {
    Checks.refused("the twelfth is back", STATE, BoundsOfPastTest::removedAndUndone, g -> g.addPassenger(3, 4, 50));
    Checks.same("the twelfth place is free", undone(Scenes.full(), 1).addPassenger(3, 4, 50), 11);
    LiftGroup group = Scenes.full();
    group.advance(30);
    Checks.same("all have left", group.passengerCount(), 0);
    group.undo();
    Checks.same("all are back", group.passengerCount(), 12);
    Checks.same("as they were", Checks.portrait(group), Checks.portrait(Scenes.full()));
  }

  private static LiftGroup removedAndUndone() {
    LiftGroup group = Scenes.full();
    group.removePassenger(11);
    group.undo();
    return group;
  }

  private static void whatUndoLeaves() {
    LiftGroup group = Scenes.rich();
    String asides = Checks.asides(group);
    Checks.same("eight", undone(group, 7).undo(), 0);
    Checks.same("output, error position and failed command", Checks.asides(group), asides);
    Checks.same("the script buffer", group.runScript(), 1);
    Checks.same("the snapshot", group.restore(), 0);
    Checks.same("the snapshot", group.tripCount(), 2);
    Checks.same("output, error position and failed command", Checks.asides(group), asides);
    Checks.type(group, "ste");
    group.restore();
    Checks.same("the script buffer", group.type('p'), 4);
  }

  private static void save() {
    Checks.same("nobody", new LiftGroup().save(), 0);
    Checks.same("one", Scenes.waiting(1).save(), 1);
    Checks.same("twelve", Scenes.full().save(), 12);
    LiftGroup group = Scenes.waiting(3);
    group.save();
    group.removePassenger(2);
    group.save();
    group.addPassenger(1, 2, 10);
    group.addPassenger(1, 2, 10);
    Checks.same("the later one replaces the earlier", group.restore(), 2);
    LiftGroup changed = Scenes.changes(8);
    changed.save();
    Checks.same("what can be undone stays", undone(changed, 7).undo(), 0);
    Checks.same("the snapshot is not undone", changed.restore(), 0);
    Checks.same("the snapshot is not undone", changed.capacity(0), 108);
  }

  private static void restore() {
    Checks.refused("no snapshot", STATE, LiftGroup::new, g -> g.restore());
    Checks.refused("no snapshot", STATE, Scenes::full, g -> g.restore());
    Checks.refused("no snapshot", STATE, () -> Scenes.changes(9), g -> g.restore());
    LiftGroup full = Scenes.full();
    full.save();
    full.advance(30);
    Checks.same("they have left", full.passengerCount(), 0);
    for (int times = 1; times <= 3; times++) {
      Checks.same("twelve again", full.restore(), 12);
      Checks.same("as they were", Checks.portrait(full), Checks.portrait(Scenes.full()));
      Checks.same("trips again", full.advance(30), 12);
    }
    LiftGroup empty = new LiftGroup();
    empty.save();
    for (int i = 0; i < 12; i++) {
      empty.addPassenger(1, 2, 10);
    }
    Checks.same("nobody again", empty.restore(), 0);
    Checks.same("the first place", empty.addPassenger(3, 4, 50), 0);
    Checks.same("the first number", empty.number(0), 1);
  }

  private static LiftGroup restored(int changesBefore, int changesAfter) {
    LiftGroup group = Scenes.changes(changesBefore);
    group.save();
    for (int i = 1; i <= changesAfter; i++) {
      group.setCapacity(1, 500 + i);
    }
    group.restore();
    return group;
  }

  private static void restoreForgets() {
    for (int before : new int[] {0, 1, 8, 9}) {
      for (int after : new int[] {0, 1, 8, 9}) {
        Checks.refused("nothing to undo", STATE, () -> restored(before, after), g -> g.undo());
        LiftGroup group = restored(before, after);
        Checks.same("the state of the snapshot", group.capacity(0), before == 0 ? 400 : 100 + before);
        Checks.same("the state of the snapshot", group.capacity(1), 400);
        for (int i = 1; i <= 9; i++) {
          group.setCapacity(2, 200 + i);
        }
        Checks.same("eight new ones", undone(group, 7).undo(), 0);
        Checks.same("the first of nine is forgotten", group.capacity(2), 201);
        Checks.same("and there it ends", tryUndo(group), -1);
      }
    }
    LiftGroup one = restored(3, 2);
    one.setCapacity(2, 222);
    Checks.same("one new one", one.undo(), 0);
    Checks.same("undone", one.capacity(2), 400);
    Checks.same("and there it ends", tryUndo(one), -1);
  }
}

import java.lang.reflect.InvocationTargetException;
import java.lang.reflect.Method;
import java.lang.reflect.Modifier;
import java.util.ArrayList;
import java.util.Arrays;
import java.util.List;
import java.util.Map;
import java.util.Set;
import java.util.TreeSet;
import java.util.function.Supplier;

/**
 * "Nothing is promised beyond the answers and state changes described above": what a call is not told to change stays
 * as it was. Every change is held against all that can be read before and after it, and reading changes nothing.
 */
public final class NothingElseTest {
  /** The calls that are told to change something; all the others of the face read. */
  private static final Set<String> CHANGING = Set.of("addPassenger", "removePassenger", "holdDoors", "stopCar",
      "startCar", "setCapacity", "advance", "renderCar", "renderFloors", "type", "runScript", "undo", "save",
      "restore");
  /** Inside, on and outside every range of the document. */
  private static final int[] VALUES = {Integer.MIN_VALUE, -1, 0, 1, 2, 3, 9, 10, 12, 90, 91, 150, Integer.MAX_VALUE};

  private NothingElseTest() {
  }

  public static void main(String[] args) throws ReflectiveOperationException {
    additions();
    removals();
    doorsAndServices();
    capacities();
    steps();
    stepWithoutService();
    besidesTheState();
    back();
    readingCalls();
    twoObjects();
    Checks.end();
  }

  /** In the crossing scene, the call changes what is listed, as "call before -> after", and nothing else. */
  private static void changes(String what, Checks.Call call, String... due) {
    changes(what, Scenes::crossing, call, due);
  }

  private static void changes(String what, Supplier<LiftGroup> build, Checks.Call call, String... due) {
    LiftGroup group = build.get();
    call.on(group);
    Set<String> got = new TreeSet<>(Readings.difference(Readings.state(build.get()), Readings.state(group)));
    Set<String> wanted = new TreeSet<>(List.of(due));
    for (String line : wanted) {
      Checks.yes(what + ": " + line, got.contains(line));
    }
    for (String line : got) {
      Checks.yes(what + ", not told: no " + line, wanted.contains(line));
    }
  }

  private static void additions() {
    changes("one more on floor 0, where doors are open", g -> g.addPassenger(0, 9, 60),
        "passengerCount() 6 -> 7", "number(6) none -> 9", "start(6) none -> 0", "destination(6) none -> 9",
        "weight(6) none -> 60", "waitingTime(6) none -> 0", "isInCar(6) none -> false", "carOf(6) none -> 0",
        "assignedTo(0) 1 -> 2", "waitingAt(0) 1 -> 2");
    changes("one on floor 7", g -> g.addPassenger(7, 9, 60),
        "passengerCount() 6 -> 7", "number(6) none -> 9", "start(6) none -> 7", "destination(6) none -> 9",
        "weight(6) none -> 60", "waitingTime(6) none -> 0", "isInCar(6) none -> false", "carOf(6) none -> 0",
        "assignedTo(0) 1 -> 2", "waitingAt(7) 0 -> 1", "isStop(0, 7) false -> true", "stopCount(0) 2 -> 3");
  }

  private static void removals() {
    changes("one of car 2", g -> g.removePassenger(3),
        "passengerCount() 6 -> 5", "waitingAt(6) 1 -> 0",
        "assignedTo(2) 1 -> 0", "isStop(2, 6) true -> false", "stopCount(2) 2 -> 1", "nextStop(2) 6 -> 8",
        "number(3) 6 -> 7", "start(3) 6 -> 0", "destination(3) 1 -> 3", "weight(3) 80 -> 40", "carOf(3) 2 -> 0",
        "number(4) 7 -> 8", "start(4) 0 -> 4", "destination(4) 3 -> 0", "weight(4) 40 -> 150",
        "carOf(4) 0 -> NoSuchElementException",
        "number(5) 8 -> none", "start(5) 4 -> none", "destination(5) 0 -> none", "weight(5) 150 -> none",
        "waitingTime(5) 1 -> none", "isInCar(5) false -> none", "carOf(5) NoSuchElementException -> none");
    changes("one of car 0", g -> g.removePassenger(4),
        "passengerCount() 6 -> 5", "waitingAt(0) 1 -> 0",
        "assignedTo(0) 1 -> 0", "isStop(0, 0) true -> false", "stopCount(0) 2 -> 1", "nextStop(0) 0 -> 6",
        "number(4) 7 -> 8", "start(4) 0 -> 4", "destination(4) 3 -> 0", "weight(4) 40 -> 150",
        "carOf(4) 0 -> NoSuchElementException",
        "number(5) 8 -> none", "start(5) 4 -> none", "destination(5) 0 -> none", "weight(5) 150 -> none",
        "waitingTime(5) 1 -> none", "isInCar(5) false -> none", "carOf(5) NoSuchElementException -> none");
    changes("the one of no car", g -> g.removePassenger(5),
        "passengerCount() 6 -> 5", "waitingAt(4) 1 -> 0",
        "number(5) 8 -> none", "start(5) 4 -> none", "destination(5) 0 -> none", "weight(5) 150 -> none",
        "waitingTime(5) 1 -> none", "isInCar(5) false -> none", "carOf(5) NoSuchElementException -> none");
  }

  private static void doorsAndServices() {
    changes("holding the doors of car 0", g -> g.holdDoors(0, 3), "doorSteps(0) 1 -> 3");
    changes("holding them as they are", g -> g.holdDoors(0, 1));
    changes("holding the doors of car 1", g -> g.holdDoors(1, 1), "doorSteps(1) 2 -> 1");
    changes("stopping car 0", g -> g.stopCar(0),
        "isInService(0) true -> false", "carOf(4) 0 -> NoSuchElementException", "assignedTo(0) 1 -> 0",
        "isStop(0, 0) true -> false", "stopCount(0) 2 -> 1", "nextStop(0) 0 -> 6");
    changes("stopping car 2", g -> g.stopCar(2),
        "isInService(2) true -> false", "carOf(3) 2 -> NoSuchElementException", "assignedTo(2) 1 -> 0",
        "isStop(2, 6) true -> false", "stopCount(2) 2 -> 1", "nextStop(2) 6 -> 8");
    changes("starting car 1", g -> g.startCar(1), "isInService(1) false -> true");
  }

  private static void capacities() {
    changes("more room in car 0", g -> g.setCapacity(0, 500),
        "capacity(0) 400 -> 500", "loadShare(0) 0.225 -> 0.18");
    changes("too little for the one who waits for it", g -> g.setCapacity(0, 100),
        "capacity(0) 400 -> 100", "loadShare(0) 0.225 -> 0.9");
    changes("the same room", g -> g.setCapacity(0, 400));
    changes("room out of service", g -> g.setCapacity(1, 900),
        "capacity(1) 300 -> 900", "loadShare(1) " + 70f / 300f + " -> " + 70f / 900f);
    changes("no more than the load", g -> g.setCapacity(2, 120),
        "capacity(2) 130 -> 120", "loadShare(2) " + 120f / 130f + " -> 1.0");
  }

  private static void steps() {
    String[] due = {"time() 20 -> 21", "waitingTime(3) 1 -> 2", "waitingTime(4) 1 -> 2", "waitingTime(5) 1 -> 2",
        "carOf(5) NoSuchElementException -> 0", "assignedTo(0) 1 -> 2", "isStop(0, 4) false -> true",
        "stopCount(0) 2 -> 3", "doorSteps(0) 1 -> 0", "floor(2) 3 -> 4", "energy(2) 10 -> 13", "floorsUp() 6 -> 7",
        "totalEnergy() 22 -> 25", "totalEnergyByMoves() 22 -> 25"};
    changes("a step", g -> g.advance(1), due);
    changes("a script of a step", g -> g.runScript(), due);
  }

  private static LiftGroup standing() {
    LiftGroup group = Scenes.crossing();
    group.stopCar(0);
    group.stopCar(2);
    return group;
  }

  private static void stepWithoutService() {
    changes("thirty steps without a car in service", NothingElseTest::standing, g -> g.advance(30),
        "time() 20 -> 50", "waitingTime(3) 1 -> 31", "waitingTime(4) 1 -> 31", "waitingTime(5) 1 -> 31");
  }

  /** The output text, the script buffer and the snapshot are no part of each other, nor of the state. */
  private static void besidesTheState() {
    changes("renderCar", g -> g.renderCar(2), "outputAt(..) 1@2^1/70ox -> 2@3^1/120|");
    changes("renderFloors", g -> g.renderFloors(), "outputAt(..) 1@2^1/70ox -> 1,0,0,0,1,0,1,0,0,0");
    changes("type", g -> g.type('5'));
    changes("save", g -> g.save());
    for (Checks.Call call : List.<Checks.Call>of(g -> g.renderCar(2), g -> g.renderFloors(), g -> g.save())) {
      LiftGroup group = Scenes.crossing();
      call.on(group);
      Checks.same("the script buffer", Checks.bufferLength(group), 6);
    }
    for (Checks.Call call : List.<Checks.Call>of(g -> g.renderCar(2), g -> g.renderFloors(), g -> g.type('5'))) {
      LiftGroup group = Scenes.crossing();
      call.on(group);
      Checks.same("history and snapshot", Checks.past(group), Checks.past(Scenes.crossing()));
    }
    LiftGroup saved = Scenes.crossing();
    saved.save();
    Checks.same("history", saved.undo(), 7);
    Checks.same("the snapshot", saved.restore(), 6);
    Checks.same("is the state then", saved.capacity(0), 400);
  }

  private static void back() {
    changes("undoing the latest change", g -> g.undo(), "capacity(0) 400 -> 100", "loadShare(0) 0.225 -> 0.9");
    changes("undoing what came after the snapshot", g -> {
      g.save();
      g.stopCar(0);
      g.advance(30);
      g.restore();
    });
    LiftGroup group = Scenes.crossing();
    group.undo();
    Checks.same("the script buffer", Checks.bufferLength(group), 6);
  }

  private static void readingCalls() throws ReflectiveOperationException {
    List<String> names = new ArrayList<>();
    for (Method method : LiftGroup.class.getDeclaredMethods()) {
      if (Modifier.isPublic(method.getModifiers()) && !CHANGING.contains(method.getName())) {
        names.add(method.getName());
        readingLeaves("new object", LiftGroup::new, method);
        readingLeaves("full object", Scenes::full, method);
        readingLeaves("crossing", Scenes::crossing, method);
      }
    }
    Checks.same("calls that read", names.size(), 59 - CHANGING.size());
  }

  /** The method is called with all these arguments on one object, and all that can be read is compared. */
  private static void readingLeaves(String scene, Supplier<LiftGroup> build, Method method)
      throws ReflectiveOperationException {
    String what = method.getName() + ", " + scene + ": ";
    LiftGroup read = called(build, method);
    Map<String, String> before = Readings.all(build.get());
    Checks.same(what + "nothing changes", Readings.difference(before, Readings.all(read)).toString(), "[]");
    Checks.same(what + "the buffer stays", Checks.bufferLength(called(build, method)),
        Checks.bufferLength(build.get()));
    Checks.same(what + "history and snapshot stay", Checks.past(called(build, method)), Checks.past(build.get()));
    Checks.same(what + "what comes next stays", Checks.next(called(build, method)), Checks.next(build.get()));
  }

  private static LiftGroup called(Supplier<LiftGroup> build, Method method) throws ReflectiveOperationException {
    LiftGroup group = build.get();
    int parameters = method.getParameterCount();
    // A second argument is the same value as the first, or 0, 9 or 150, so that it is in every range once.
    for (int first = 0; first < (parameters == 0 ? 1 : VALUES.length); first++) {
      for (int second : parameters < 2 ? new int[] {0} : new int[] {first, 2, 6, 11}) {
        Object[] arguments = {VALUES[first], VALUES[second]};
        try {
          method.invoke(group, Arrays.copyOf(arguments, parameters));
        } catch (InvocationTargetException e) {
          Checks.yes(method + " throws what it may",
              List.of(method.getExceptionTypes()).contains(e.getCause().getClass()));
        }
      }
    }
    return group;
  }

  /** Two objects used by turns are as if each had been alone. */
  private static void twoObjects() {
    LiftGroup one = new LiftGroup();
    LiftGroup other = new LiftGroup();
    one.addPassenger(0, 5, 80);
    one.save();
    other.save();
    other.setCapacity(1, 500);
    one.renderCar(0);
    other.renderFloors();
    Checks.type(one, "step x");
    Checks.type(other, "step;stop 9");
    Checks.same("one's output", one.outputAt(1), '@');
    Checks.same("the other's output", other.outputAt(1), ',');
    Checks.yes("one's script is malformed", isMalformed(one));
    Checks.yes("the other's is not", !isMalformed(other));
    Checks.same("one's error position", one.errorPosition(), 5);
    Checks.same("the other has none", Checks.orNone(other, LiftGroup::errorPosition), -1);
    Checks.same("one has no failed command", Checks.orNone(one, LiftGroup::failedCommand), -1);
    Checks.same("the other's failed command", other.failedCommand(), 1);
    one.advance(7);
    Checks.same("the other's time", other.time(), 0);
    Checks.same("the other's first number", other.number(other.addPassenger(1, 2, 50)), 1);
    Checks.same("what one can undo", one.undo(), 1);
    Checks.same("what the other can undo", other.undo(), 1);
    one.advance(30);
    Checks.same("the other's trips", other.tripCount(), 0);
    Checks.same("the other's snapshot", other.restore(), 0);
    Checks.same("one's snapshot", one.restore(), 1);
    Checks.same("of its own state", one.weight(0), 80);
    LiftGroup third = new LiftGroup();
    Checks.same("a later object is new", Readings.all(third).toString(), Readings.all(new LiftGroup()).toString());
    Checks.same("has nobody", third.passengerCount(), 0);
    Checks.refused("nothing to undo", IllegalStateException.class, LiftGroup::new, g -> g.undo());
    Checks.refused("nothing to restore", IllegalStateException.class, LiftGroup::new, g -> g.restore());
  }

  private static boolean isMalformed(LiftGroup group) {
    try {
      group.runScript();
      return false;
    } catch (IllegalArgumentException e) {
      return true;
    } catch (IllegalStateException e) {
      return false;
    }
  }
}

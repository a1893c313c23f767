import java.util.ArrayList;
import java.util.LinkedHashMap;
import java.util.List;
import java.util.Map;
import java.util.TreeSet;

/** What can be read of an object, in fewer calls than it may be used for: each call with its answer. */
final class Readings {
  private final LiftGroup group;
  private final Map<String, String> answers = new LinkedHashMap<>();

  private interface Read {
    Object from(LiftGroup group);
  }

  private Readings(LiftGroup group) {
    this.group = group;
  }

  /** The state by itself, without what follows from it by estimates, predictions and rankings. */
  static Map<String, String> state(LiftGroup group) {
    Readings readings = new Readings(group);
    readings.counts();
    readings.cars();
    readings.passengers();
    readings.log();
    readings.asides();
    return readings.answers;
  }

  /** All that can be read. */
  static Map<String, String> all(LiftGroup group) {
    Readings readings = new Readings(group);
    readings.answers.putAll(state(group));
    readings.estimates();
    readings.predictions();
    readings.rankings();
    return readings.answers;
  }

  /** The calls whose answers differ, as in "time() 3 -> 4"; a call that is not there on one side is "none" there. */
  static List<String> difference(Map<String, String> before, Map<String, String> after) {
    TreeSet<String> calls = new TreeSet<>(before.keySet());
    calls.addAll(after.keySet());
    List<String> lines = new ArrayList<>();
    for (String call : calls) {
      String one = before.getOrDefault(call, "none");
      String other = after.getOrDefault(call, "none");
      if (!one.equals(other)) {
        lines.add(call + " " + one + " -> " + other);
      }
    }
    return lines;
  }

  private void read(String call, Read read) {
    String answer;
    try {
      answer = String.valueOf(read.from(group));
    } catch (RuntimeException e) {
      answer = e.getClass().getSimpleName();
    }
    answers.put(call, answer);
  }

  private void counts() {
    read("time()", LiftGroup::time);
    read("passengerCount()", LiftGroup::passengerCount);
    read("tripCount()", LiftGroup::tripCount);
    read("totalEnergy()", LiftGroup::totalEnergy);
    read("totalEnergyByMoves()", LiftGroup::totalEnergyByMoves);
    read("floorsUp()", LiftGroup::floorsUp);
    read("floorsDown()", LiftGroup::floorsDown);
    read("doorOpenings()", LiftGroup::doorOpenings);
    read("meanWaiting()", LiftGroup::meanWaiting);
    read("isConsistent()", LiftGroup::isConsistent);
    for (int i = 0; i < 10; i++) {
      int floor = i;
      read("waitingAt(" + floor + ")", g -> g.waitingAt(floor));
    }
  }

  private void cars() {
    for (int i = 0; i < 3; i++) {
      int car = i;
      String it = "(" + car + ")";
      read("floor" + it, g -> g.floor(car));
      read("direction" + it, g -> g.direction(car));
      read("capacity" + it, g -> g.capacity(car));
      read("load" + it, g -> g.load(car));
      read("loadShare" + it, g -> g.loadShare(car));
      read("passengersIn" + it, g -> g.passengersIn(car));
      read("assignedTo" + it, g -> g.assignedTo(car));
      read("doorSteps" + it, g -> g.doorSteps(car));
      read("isInService" + it, g -> g.isInService(car));
      read("energy" + it, g -> g.energy(car));
      read("stopCount" + it, g -> g.stopCount(car));
      read("nextStop" + it, g -> g.nextStop(car));
      for (int k = 0; k < 10; k++) {
        int floor = k;
        read("isStop(" + car + ", " + floor + ")", g -> g.isStop(car, floor));
      }
    }
  }

  private void passengers() {
    int count = group.passengerCount();
    for (int i = 0; i < count; i++) {
      int passenger = i;
      String it = "(" + passenger + ")";
      read("number" + it, g -> g.number(passenger));
      read("start" + it, g -> g.start(passenger));
      read("destination" + it, g -> g.destination(passenger));
      read("weight" + it, g -> g.weight(passenger));
      read("waitingTime" + it, g -> g.waitingTime(passenger));
      read("isInCar" + it, g -> g.isInCar(passenger));
      read("carOf" + it, g -> g.carOf(passenger));
    }
  }

  private void log() {
    int trips = Math.min(group.tripCount(), 10);
    for (int i = 0; i < trips; i++) {
      int recency = i;
      String it = "(" + recency + ")";
      read("tripNumber" + it, g -> g.tripNumber(recency));
      read("tripCar" + it, g -> g.tripCar(recency));
      read("tripWaiting" + it, g -> g.tripWaiting(recency));
    }
  }

  private void asides() {
    answers.put("outputAt(..)", output());
    read("errorPosition()", LiftGroup::errorPosition);
    read("failedCommand()", LiftGroup::failedCommand);
  }

  private String output() {
    StringBuilder text = new StringBuilder();
    try {
      for (int i = 0; i < 40; i++) {
        text.append(group.outputAt(i));
      }
      return text + "..";
    } catch (IndexOutOfBoundsException e) {
      return text.toString();
    }
  }

  private void estimates() {
    for (int i = 0; i < 10; i++) {
      int floor = i;
      for (int k = 0; k < 3; k++) {
        int car = k;
        read("estimate(" + car + ", " + floor + ")", g -> g.estimate(car, floor));
        read("estimateByWalk(" + car + ", " + floor + ")", g -> g.estimateByWalk(car, floor));
      }
      read("bestCar(" + floor + ", 10)", g -> g.bestCar(floor, 10));
      read("bestCar(" + floor + ", 150)", g -> g.bestCar(floor, 150));
    }
  }

  private void predictions() {
    int count = group.passengerCount();
    for (int i = 0; i < count; i++) {
      int passenger = i;
      read("stepsUntilBoarding(" + passenger + ")", g -> g.stepsUntilBoarding(passenger));
      read("stepsUntilArrival(" + passenger + ")", g -> g.stepsUntilArrival(passenger));
    }
    read("tripsWithin(10)", g -> g.tripsWithin(10));
    read("tripsWithin(90)", g -> g.tripsWithin(90));
  }

  private void rankings() {
    for (int i = 0; i < 12; i++) {
      int rank = i;
      read("passengerByWaiting(" + rank + ")", g -> g.passengerByWaiting(rank));
    }
    for (int i = 0; i < 3; i++) {
      int rank = i;
      read("carByEnergy(" + rank + ")", g -> g.carByEnergy(rank));
    }
  }
}

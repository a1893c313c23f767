import java.util.NoSuchElementException;
import java.util.function.Supplier;
import java.util.function.ToIntFunction;

/** What every test uses: it counts the wrong answers and ends the program with exit code 1 if there was one. */
final class Checks {
  private static int wrong = 0;
  private static int made = 0;

  private Checks() {
  }

  interface Call {
    void on(LiftGroup group);
  }

  static void same(String what, long got, long due) {
    made++;
    if (got != due) {
      report(what + " answered " + got + ", due is " + due);
    }
  }

  static void same(String what, double got, double due) {
    made++;
    if (got != due) {
      report(what + " answered " + got + ", due is " + due);
    }
  }

  static void same(String what, String got, String due) {
    made++;
    if (!got.equals(due)) {
      report(what + " answered " + got + ", due is " + due);
    }
  }

  static void yes(String what, boolean got) {
    made++;
    if (!got) {
      report(what + " is false");
    }
  }

  /**
   * The call throws exactly this exception. What can be read is the same before and after it, and so is what only
   * later calls show: a twin without the call goes back through its history, and to its snapshot, in the same way.
   */
  static void refused(String what, Class<? extends RuntimeException> due, Supplier<LiftGroup> build, Call call) {
    LiftGroup read = build.get();
    String before = portrait(read) + asides(read);
    same(what + " throws", thrownBy(read, call), due.getName());
    same(what + ": the state afterwards", portrait(read) + asides(read), before);
    LiftGroup used = build.get();
    LiftGroup twin = build.get();
    thrownBy(used, call);
    same(what + ": the script buffer", bufferLength(used), bufferLength(twin));
    same(what + ": history and snapshot", past(used), past(twin));
    LiftGroup going = build.get();
    thrownBy(going, call);
    same(what + ": what comes next", next(going), next(build.get()));
  }

  /** The same in a new object, in one with something of everything, and in one with twelve passengers. */
  static void refusedAlways(String what, Class<? extends RuntimeException> due, Call call) {
    refused(what + " (new object)", due, LiftGroup::new, call);
    refused(what + " (rich object)", due, Scenes::rich, call);
    refused(what + " (full object)", due, Scenes::full, call);
  }

  /** runScript throws exactly this exception; the buffer is empty then, and the state as it was. */
  static void refusedScript(String what, Class<? extends RuntimeException> due, Supplier<LiftGroup> build) {
    LiftGroup read = build.get();
    String before = portrait(read);
    same(what + " throws", thrownBy(read, LiftGroup::runScript), due.getName());
    same(what + ": the state afterwards", portrait(read), before);
    LiftGroup used = build.get();
    thrownBy(used, LiftGroup::runScript);
    same(what + ": the script buffer", bufferLength(used), 0);
    same(what + ": history and snapshot", past(used), past(build.get()));
    LiftGroup going = build.get();
    thrownBy(going, LiftGroup::runScript);
    same(what + ": what comes next", next(going), next(build.get()));
  }

  /** The name of the exception that the call throws. */
  private static String thrownBy(LiftGroup group, Call call) {
    try {
      call.on(group);
      return "nothing";
    } catch (RuntimeException e) {
      return e.getClass().getName();
    }
  }

  /** What can be seen of the state, in fewer calls than an object may be used for. */
  static String portrait(LiftGroup group) {
    StringBuilder text = new StringBuilder();
    text.append("time ").append(group.time());
    for (int car = 0; car < 3; car++) {
      text.append("; car ").append(group.floor(car)).append(' ').append(group.direction(car))
          .append(' ').append(group.capacity(car)).append(' ').append(group.load(car))
          .append(' ').append(group.passengersIn(car)).append(' ').append(group.assignedTo(car))
          .append(' ').append(group.doorSteps(car)).append(' ').append(group.isInService(car))
          .append(' ').append(group.energy(car)).append(' ').append(group.stopCount(car));
    }
    int count = group.passengerCount();
    for (int i = 0; i < count; i++) {
      text.append("; passenger ").append(group.number(i)).append(' ').append(group.start(i))
          .append(' ').append(group.destination(i)).append(' ').append(group.weight(i))
          .append(' ').append(group.waitingTime(i)).append(' ').append(group.isInCar(i))
          .append(' ').append(carOrNone(group, i));
    }
    text.append("; trips ").append(group.tripCount()).append("; moves ").append(group.floorsUp())
        .append(' ').append(group.floorsDown()).append(' ').append(group.doorOpenings())
        .append(' ').append(group.totalEnergy()).append(' ').append(group.totalEnergyByMoves()).append("; log");
    int trips = group.tripCount();
    for (int recency = 0; recency < Math.min(trips, 10); recency++) {
      text.append(' ').append(group.tripNumber(recency)).append('/').append(group.tripCar(recency))
          .append('/').append(group.tripWaiting(recency));
    }
    if (trips > 0) {
      text.append("; mean ").append(group.meanWaiting());
    }
    return text.toString();
  }

  /** What can be read beside the state: the output text, the error position and the failed command. */
  static String asides(LiftGroup group) {
    StringBuilder text = new StringBuilder("; output ");
    try {
      for (int i = 0; i < 30; i++) {
        text.append(group.outputAt(i));
      }
    } catch (IndexOutOfBoundsException e) {
      text.append("; error ").append(orNone(group, LiftGroup::errorPosition));
      text.append("; failed ").append(orNone(group, LiftGroup::failedCommand));
    }
    return text.toString();
  }

  /** The length of the script buffer, which gets one character longer by this unless it is full. */
  static int bufferLength(LiftGroup group) {
    try {
      return group.type('x') - 1;
    } catch (IllegalStateException e) {
      return 60;
    }
  }

  /** Undoes all that can be undone, then restores the snapshot if there is one: some of the state after each. */
  static String past(LiftGroup group) {
    StringBuilder text = new StringBuilder();
    try {
      for (int i = 0; i < 10; i++) {
        text.append("; undo ").append(group.undo()).append(' ').append(group.time());
        for (int car = 0; car < 3; car++) {
          text.append(' ').append(group.capacity(car)).append(' ').append(group.load(car));
        }
      }
    } catch (IllegalStateException e) {
      text.append(portrait(group));
    }
    try {
      text.append("; restore ").append(group.restore()).append(portrait(group));
    } catch (IllegalStateException e) {
      text.append("; no snapshot");
    }
    return text.toString();
  }

  /** What steps and one more passenger do, whose number and place are not to be read before. */
  static String next(LiftGroup group) {
    StringBuilder text = new StringBuilder();
    if (group.passengerCount() < 12) {
      text.append(group.number(group.addPassenger(3, 8, 60)));
    }
    text.append("; ").append(group.advance(1)).append(portrait(group));
    text.append("; ").append(group.advance(30)).append(portrait(group));
    if (group.passengerCount() < 12) {
      text.append("; ").append(group.number(group.addPassenger(3, 8, 60)));
    }
    return text.toString();
  }

  static int carOrNone(LiftGroup group, int passenger) {
    return orNone(group, g -> g.carOf(passenger));
  }

  /** The answer, or -1 where the document wants a NoSuchElementException. */
  static int orNone(LiftGroup group, ToIntFunction<LiftGroup> call) {
    try {
      return call.applyAsInt(group);
    } catch (NoSuchElementException e) {
      return -1;
    }
  }

  static void type(LiftGroup group, String script) {
    for (int i = 0; i < script.length(); i++) {
      group.type(script.charAt(i));
    }
  }

  static String output(LiftGroup group, int length) {
    StringBuilder text = new StringBuilder();
    for (int i = 0; i < length; i++) {
      text.append(group.outputAt(i));
    }
    return text.toString();
  }

  static void report(String line) {
    wrong++;
    if (wrong <= 50) {
      System.out.println(line);
    }
  }

  static void end() {
    System.out.println(wrong == 0 ? "all " + made + " answers are as due" : wrong + " answers are not as due");
    if (wrong != 0) {
      System.exit(1);
    }
  }
}

import java.util.function.Supplier;

/** What every test uses: it counts the wrong answers and ends the program with exit code 1 if there was one. */
final class Checks {
  private static int wrong = 0;
  private static int made = 0;

  private Checks() {
  }

  interface Call {
    void on(LiftGroup group);
  }

  static void same(String what, long got, long due) {
    made++;
    if (got != due) {
      report(what + " answered " + got + ", due is " + due);
    }
  }

  static void same(String what, double got, double due) {
    made++;
    if (got != due) {
      report(what + " answered " + got + ", due is " + due);
    }
  }

  static void same(String what, String got, String due) {
    made++;
    if (!got.equals(due)) {
      report(what + " answered " + got + ", due is " + due);
    }
  }

  static void yes(String what, boolean got) {
    made++;
    if (!got) {
      report(what + " is false");
    }
  }

  /** The call throws exactly this exception, and the object then answers like a twin without the call. */
  static void refused(String what, Class<? extends RuntimeException> due, Supplier<LiftGroup> build, Call call) {
    LiftGroup group = build.get();
    made++;
    String got = "nothing";
    try {
      call.on(group);
    } catch (RuntimeException e) {
      got = e.getClass().getName();
    }
    if (!got.equals(due.getName())) {
      report(what + " threw " + got + ", due is " + due.getName());
    }
    same(what + ": the state afterwards", portrait(group), portrait(build.get()));
  }

  /** What can be seen of the state, in fewer calls than an object may be used for. */
  static String portrait(LiftGroup group) {
    StringBuilder text = new StringBuilder();
    text.append("time ").append(group.time());
    for (int car = 0; car < 3; car++) {
      text.append("; car ").append(group.floor(car)).append(' ').append(group.direction(car))
          .append(' ').append(group.capacity(car)).append(' ').append(group.load(car))
          .append(' ').append(group.passengersIn(car)).append(' ').append(group.assignedTo(car))
          .append(' ').append(group.doorSteps(car)).append(' ').append(group.isInService(car))
          .append(' ').append(group.energy(car)).append(' ').append(group.stopCount(car));
    }
    int count = group.passengerCount();
    for (int i = 0; i < count; i++) {
      text.append("; passenger ").append(group.number(i)).append(' ').append(group.start(i))
          .append(' ').append(group.destination(i)).append(' ').append(group.weight(i))
          .append(' ').append(group.waitingTime(i)).append(' ').append(group.isInCar(i))
          .append(' ').append(carOrNone(group, i));
    }
    text.append("; trips ").append(group.tripCount()).append("; moves ").append(group.floorsUp())
        .append(' ').append(group.floorsDown()).append(' ').append(group.doorOpenings())
        .append(' ').append(group.totalEnergy()).append(' ').append(group.totalEnergyByMoves());
    return text.toString();
  }

  static int carOrNone(LiftGroup group, int passenger) {
    try {
      return group.carOf(passenger);
    } catch (java.util.NoSuchElementException e) {
      return -1;
    }
  }

  static void type(LiftGroup group, String script) {
    for (int i = 0; i < script.length(); i++) {
      group.type(script.charAt(i));
    }
  }

  static String output(LiftGroup group, int length) {
    StringBuilder text = new StringBuilder();
    for (int i = 0; i < length; i++) {
      text.append(group.outputAt(i));
    }
    return text.toString();
  }

  static void report(String line) {
    wrong++;
    if (wrong <= 50) {
      System.out.println(line);
    }
  }

  static void end() {
    System.out.println(wrong == 0 ? "all " + made + " answers are as due" : wrong + " answers are not as due");
    if (wrong != 0) {
      System.exit(1);
    }
  }
}

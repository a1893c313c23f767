public final class Example {
  public static void main(String[] args) {
    LiftGroup group = new LiftGroup();

    // A passenger from floor 3 to floor 7, of 80 kilograms, and the car that is assigned.
    System.out.println(group.addPassenger(3, 7, 80));  // 0: the index of the passenger
    System.out.println(group.carOf(0));                // 0: the number of the car
    System.out.println(group.estimate(0, 3));          // 3: floors to move, as nobody is in the car yet
    System.out.println(group.stepsUntilArrival(0));    // 11: a prediction, which changes nothing

    // Car 0 moves up to floor 3, opens its doors, closes them and moves on to floor 7.
    System.out.println(group.advance(10));             // 0: trips in these ten steps
    System.out.println(group.isInCar(0));              // true: the passenger has boarded
    System.out.println(group.waitingTime(0));          // 4: steps of waiting
    System.out.println(car(group, 0));                 // 0@7^1/80|: at floor 7, upwards, 1 passenger, doors closed
    System.out.println(group.advance(1));              // 1: a trip, as the doors open at floor 7
    System.out.println(group.passengerCount());        // 0: nobody is left
    System.out.println(group.tripNumber(0));           // 1: the number of the passenger of the latest trip

    // A call that is refused throws what the document names, and nothing else happens.
    try {
      group.advance(31);
    } catch (IllegalArgumentException refused) {
      System.out.println("refused");                   // refused: it takes 1 to 30 steps
    }
    System.out.println(group.time());                  // 11: as before

    // A script takes effect as a whole or not at all, and is undone as a whole.
    type(group, "call 2 6 75;step 5;stop 0");
    System.out.println(group.runScript());             // 3: commands
    System.out.println(group.isInService(0));          // false: the last of them has stopped car 0
    System.out.println(group.undo());                  // 3: changes that can still be undone
    System.out.println(group.time());                  // 11: the script has been taken back
    type(group, "step 5;stop 9");
    try {
      group.runScript();
    } catch (IllegalStateException refused) {
      System.out.println(group.failedCommand());       // 1: there is no car 9
    }
    System.out.println(group.time());                  // 11: the five steps have not taken effect
  }

  private static String car(LiftGroup group, int car) {
    StringBuilder text = new StringBuilder();
    int length = group.renderCar(car);
    for (int i = 0; i < length; i++) {
      text.append(group.outputAt(i));
    }
    return text.toString();
  }

  private static void type(LiftGroup group, String script) {
    for (int i = 0; i < script.length(); i++) {
      group.type(script.charAt(i));
    }
  }
}

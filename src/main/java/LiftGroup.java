import java.util.NoSuchElementException;

/**
 * A controller for a group of lifts with destination calls.
 *
 * <p>The whole state that undo and the snapshot cover is one {@link Building}; every row of it is made in the
 * constructor and copied over later, so that calls make no objects but the exceptions that they throw.
 */
public final class LiftGroup {
  private static final int FLOORS = 10;
  private static final int CARS = 3;
  private static final int MOST_PASSENGERS = 12;
  private static final int LEAST_WEIGHT = 10;
  private static final int MOST_WEIGHT = 150;
  private static final int LEAST_CAPACITY = 100;
  private static final int MOST_CAPACITY = 900;
  private static final int FIRST_CAPACITY = 400;
  private static final int MOST_DOOR_STEPS = 3;
  private static final int OPENING_STEPS = 2;
  private static final int MOST_STEPS = 30;
  private static final int PREDICTED_STEPS = 90;
  private static final int REMEMBERED_TRIPS = 10;
  private static final int REMEMBERED_CHANGES = 8;
  private static final int SCRIPT_LENGTH = 60;

  private static final int UP = 1;
  private static final int IDLE = 0;
  private static final int DOWN = -1;

  /** Stands for no car, no error position and no failed command. */
  private static final int NONE = -1;

  // Why a change is refused. A script asks this instead of catching exceptions.
  private static final int ALLOWED = 0;
  private static final int NO_SUCH_INDEX = 1;
  private static final int BAD_ARGUMENT = 2;
  private static final int BAD_STATE = 3;
  private static final int NOT_SUPPORTED = 4;

  // The commands of a script; a form's number is also the number of its command.
  private static final int CALL = 0;
  private static final int LEAVE = 1;
  private static final int HOLD = 2;
  private static final int STOP = 3;
  private static final int START = 4;
  private static final int LIMIT = 5;
  private static final int STEPS = 6;
  private static final int ONE_STEP = 7;
  private static final int FORMS = ONE_STEP + 1;

  private final Building now = new Building();
  /** Scripts and predictions happen here first, so that they leave no trace when they must not. */
  private final Building trial = new Building();
  private final Building snapshot = new Building();
  private final History history = new History();
  private final Script script = new Script();
  private final StringBuilder output = new StringBuilder();
  private boolean hasSnapshot = false;
  private int latestError = NONE;
  private int latestFailure = NONE;

  public LiftGroup() {
  }

  // Changes

  public int addPassenger(int start, int destination, int weight)
      throws IllegalArgumentException, IllegalStateException {
    throwIfRefused(now.refusalToAdd(start, destination, weight));
    history.remember(now);
    return now.add(start, destination, weight);
  }

  public int removePassenger(int passenger) throws IndexOutOfBoundsException, IllegalStateException {
    throwIfRefused(now.refusalToRemove(passenger));
    history.remember(now);
    return now.remove(passenger);
  }

  public int holdDoors(int car, int steps)
      throws IndexOutOfBoundsException, IllegalArgumentException, IllegalStateException {
    throwIfRefused(now.refusalToHold(car, steps));
    history.remember(now);
    return now.hold(car, steps);
  }

  public int stopCar(int car) throws IndexOutOfBoundsException, IllegalStateException {
    throwIfRefused(now.refusalToStop(car));
    history.remember(now);
    return now.takeOutOfService(car);
  }

  public int startCar(int car) throws IndexOutOfBoundsException, IllegalStateException {
    throwIfRefused(now.refusalToStart(car));
    history.remember(now);
    return now.putInService(car);
  }

  public int setCapacity(int car, int kilograms)
      throws IndexOutOfBoundsException, IllegalArgumentException, UnsupportedOperationException {
    throwIfRefused(now.refusalToLimit(car, kilograms));
    history.remember(now);
    return now.limit(car, kilograms);
  }

  public int advance(int steps) throws IllegalArgumentException {
    throwIfRefused(now.refusalToPass(steps));
    history.remember(now);
    return now.letPass(steps);
  }

  // Cars

  public int time() {
    return now.time;
  }

  public int floor(int car) throws IndexOutOfBoundsException {
    checkCar(car);
    return now.cars[car].floor;
  }

  public int direction(int car) throws IndexOutOfBoundsException {
    checkCar(car);
    return now.cars[car].direction;
  }

  public int capacity(int car) throws IndexOutOfBoundsException {
    checkCar(car);
    return now.cars[car].capacity;
  }

  public int load(int car) throws IndexOutOfBoundsException {
    checkCar(car);
    return now.cars[car].load;
  }

  public int passengersIn(int car) throws IndexOutOfBoundsException {
    checkCar(car);
    return now.cars[car].riders;
  }

  public int assignedTo(int car) throws IndexOutOfBoundsException {
    checkCar(car);
    return now.countAssigned(car);
  }

  public int doorSteps(int car) throws IndexOutOfBoundsException {
    checkCar(car);
    return now.cars[car].openSteps;
  }

  public boolean isInService(int car) throws IndexOutOfBoundsException {
    checkCar(car);
    return now.cars[car].inService;
  }

  public int energy(int car) throws IndexOutOfBoundsException {
    checkCar(car);
    return now.cars[car].energy;
  }

  public boolean isStop(int car, int floor) throws IndexOutOfBoundsException, IllegalArgumentException {
    checkCar(car);
    checkFloor(floor);
    return holds(now.stopsOf(car), floor);
  }

  public int stopCount(int car) throws IndexOutOfBoundsException {
    checkCar(car);
    return Integer.bitCount(now.stopsOf(car));
  }

  public int nextStop(int car) throws IndexOutOfBoundsException, NoSuchElementException {
    checkCar(car);
    Car c = now.cars[car];
    int stops = now.stopsOf(car);
    if (stops == 0) {
      throw new NoSuchElementException("the car has no stops");
    }
    if (holds(stops, c.floor)) {
      return c.floor;
    }
    int direction = directionToChoose(c, stops);
    return c.floor + direction * distanceToFirst(stops, c.floor, direction);
  }

  // Passengers

  public int passengerCount() {
    return now.passengerCount;
  }

  public int number(int passenger) throws IndexOutOfBoundsException {
    checkPassenger(passenger);
    return now.passengers[passenger].number;
  }

  public int start(int passenger) throws IndexOutOfBoundsException {
    checkPassenger(passenger);
    return now.passengers[passenger].start;
  }

  public int destination(int passenger) throws IndexOutOfBoundsException {
    checkPassenger(passenger);
    return now.passengers[passenger].destination;
  }

  public int weight(int passenger) throws IndexOutOfBoundsException {
    checkPassenger(passenger);
    return now.passengers[passenger].weight;
  }

  public int waitingTime(int passenger) throws IndexOutOfBoundsException {
    checkPassenger(passenger);
    return now.passengers[passenger].waited;
  }

  public boolean isInCar(int passenger) throws IndexOutOfBoundsException {
    checkPassenger(passenger);
    return now.passengers[passenger].rides;
  }

  public int carOf(int passenger) throws IndexOutOfBoundsException, NoSuchElementException {
    checkPassenger(passenger);
    int car = now.passengers[passenger].car;
    if (car == NONE) {
      throw new NoSuchElementException("the passenger is assigned to no car");
    }
    return car;
  }

  public int waitingAt(int floor) throws IllegalArgumentException {
    checkFloor(floor);
    return now.countWaiting(floor);
  }

  // Estimates and predictions

  public int estimate(int car, int floor) throws IndexOutOfBoundsException, IllegalArgumentException {
    checkCar(car);
    checkFloor(floor);
    return now.estimateByFormula(car, floor);
  }

  public int estimateByWalk(int car, int floor) throws IndexOutOfBoundsException, IllegalArgumentException {
    checkCar(car);
    checkFloor(floor);
    return now.estimateByMoving(car, floor);
  }

  public int bestCar(int floor, int weight) throws IllegalArgumentException, NoSuchElementException {
    checkFloor(floor);
    if (!isWeight(weight)) {
      throw new IllegalArgumentException("the weight is not between 10 and 150");
    }
    int car = now.chooseCar(floor, weight);
    if (car == NONE) {
      throw new NoSuchElementException("there is no car for this passenger");
    }
    return car;
  }

  public int stepsUntilBoarding(int passenger) throws IndexOutOfBoundsException, NoSuchElementException {
    checkPassenger(passenger);
    if (now.passengers[passenger].rides) {
      return 0;
    }
    int number = now.passengers[passenger].number;
    trial.copyFrom(now);
    for (int steps = 1; steps <= PREDICTED_STEPS; steps++) {
      trial.step();
      if (trial.isRiding(number)) {
        return steps;
      }
    }
    throw new NoSuchElementException("the passenger does not board within 90 steps");
  }

  public int stepsUntilArrival(int passenger) throws IndexOutOfBoundsException, NoSuchElementException {
    checkPassenger(passenger);
    int number = now.passengers[passenger].number;
    trial.copyFrom(now);
    for (int steps = 1; steps <= PREDICTED_STEPS; steps++) {
      trial.step();
      if (trial.indexOf(number) == NONE) {
        return steps;
      }
    }
    throw new NoSuchElementException("the passenger does not leave within 90 steps");
  }

  public int tripsWithin(int steps) throws IllegalArgumentException {
    if (steps < 0 || steps > PREDICTED_STEPS) {
      throw new IllegalArgumentException("the number of steps is not between 0 and 90");
    }
    trial.copyFrom(now);
    return trial.letPass(steps);
  }

  // Rankings

  public int passengerByWaiting(int rank) throws NoSuchElementException {
    for (int i = 0; i < now.passengerCount; i++) {
      if (now.countLongerWaiting(i) == rank) {
        return i;
      }
    }
    throw new NoSuchElementException("there is no such rank");
  }

  public int carByEnergy(int rank) throws NoSuchElementException {
    for (int car = 0; car < CARS; car++) {
      if (now.countMoreEnergetic(car) == rank) {
        return car;
      }
    }
    throw new NoSuchElementException("there is no such rank");
  }

  // Log and totals

  public int tripNumber(int recency) throws NoSuchElementException {
    checkTrip(recency);
    return now.trips.numbers[now.trips.placeOf(recency)];
  }

  public int tripCar(int recency) throws NoSuchElementException {
    checkTrip(recency);
    return now.trips.cars[now.trips.placeOf(recency)];
  }

  public int tripWaiting(int recency) throws NoSuchElementException {
    checkTrip(recency);
    return now.trips.waits[now.trips.placeOf(recency)];
  }

  public int tripCount() {
    return now.trips.count;
  }

  public long totalEnergy() {
    return now.sumOfAccounts();
  }

  public long totalEnergyByMoves() {
    return now.energyOfMoves();
  }

  public int floorsUp() {
    return now.movesUp;
  }

  public int floorsDown() {
    return now.movesDown;
  }

  public int doorOpenings() {
    return now.openings;
  }

  public double meanWaiting() throws ArithmeticException {
    if (now.trips.count == 0) {
      throw new ArithmeticException("there was no trip");
    }
    return (double) now.trips.sumOfWaits / (double) now.trips.count;
  }

  public float loadShare(int car) throws IndexOutOfBoundsException {
    checkCar(car);
    return (float) now.cars[car].load / (float) now.cars[car].capacity;
  }

  public boolean isConsistent() {
    return now.estimatesAgree() && now.sumOfAccounts() == now.energyOfMoves()
        && now.loadsFit() && now.assignmentsServe();
  }

  // Output text

  public int renderCar(int car) throws IndexOutOfBoundsException {
    checkCar(car);
    Car c = now.cars[car];
    output.setLength(0);
    output.append(car).append('@').append(c.floor);
    output.append(c.direction == UP ? '^' : c.direction == DOWN ? 'v' : '-');
    output.append(c.riders).append('/').append(c.load);
    output.append(c.openSteps > 0 ? 'o' : '|');
    if (!c.inService) {
      output.append('x');
    }
    return output.length();
  }

  public int renderFloors() {
    output.setLength(0);
    for (int floor = 0; floor < FLOORS; floor++) {
      if (floor > 0) {
        output.append(',');
      }
      output.append(now.countWaiting(floor));
    }
    return output.length();
  }

  public char outputAt(int index) throws IndexOutOfBoundsException {
    if (index < 0 || index >= output.length()) {
      throw new IndexOutOfBoundsException("there is no such character");
    }
    return output.charAt(index);
  }

  // Scripts

  public int type(char character) throws IllegalArgumentException, IllegalStateException {
    if (character < 32 || character > 126) {
      throw new IllegalArgumentException("the character code is not between 32 and 126");
    }
    if (script.text.length() >= SCRIPT_LENGTH) {
      throw new IllegalStateException("the script buffer is full");
    }
    script.text.append(character);
    return script.text.length();
  }

  public int runScript() throws IllegalArgumentException, IllegalStateException {
    int error = script.read();
    script.text.setLength(0);
    if (error != NONE) {
      latestError = error;
      throw new IllegalArgumentException("the script does not have the required form");
    }
    trial.copyFrom(now);
    for (int i = 0; i < script.commandCount; i++) {
      if (trial.refusalToPerform(script.kinds[i], script.arguments[i]) != ALLOWED) {
        latestFailure = i;
        throw new IllegalStateException("a command of the script failed");
      }
      trial.perform(script.kinds[i], script.arguments[i]);
    }
    history.remember(now);
    now.copyFrom(trial);
    return script.commandCount;
  }

  public int errorPosition() throws NoSuchElementException {
    if (latestError == NONE) {
      throw new NoSuchElementException("every script had the required form");
    }
    return latestError;
  }

  public int failedCommand() throws NoSuchElementException {
    if (latestFailure == NONE) {
      throw new NoSuchElementException("no command failed");
    }
    return latestFailure;
  }

  // Undo and the snapshot

  public int undo() throws IllegalStateException {
    if (history.count == 0) {
      throw new IllegalStateException("there is nothing to undo");
    }
    history.takeBack(now);
    return history.count;
  }

  public int save() {
    snapshot.copyFrom(now);
    hasSnapshot = true;
    return now.passengerCount;
  }

  public int restore() throws IllegalStateException {
    if (!hasSnapshot) {
      throw new IllegalStateException("there is no snapshot");
    }
    now.copyFrom(snapshot);
    history.count = 0;
    return now.passengerCount;
  }

  // Checks of arguments

  private static boolean isCar(int car) {
    return car >= 0 && car < CARS;
  }

  private static boolean isFloor(int floor) {
    return floor >= 0 && floor < FLOORS;
  }

  private static boolean isWeight(int weight) {
    return weight >= LEAST_WEIGHT && weight <= MOST_WEIGHT;
  }

  private static void checkCar(int car) {
    if (!isCar(car)) {
      throw new IndexOutOfBoundsException("there is no such car");
    }
  }

  private static void checkFloor(int floor) {
    if (!isFloor(floor)) {
      throw new IllegalArgumentException("there is no such floor");
    }
  }

  private void checkPassenger(int passenger) {
    if (!now.isPassenger(passenger)) {
      throw new IndexOutOfBoundsException("there is no such passenger");
    }
  }

  private void checkTrip(int recency) {
    if (!now.trips.remembers(recency)) {
      throw new NoSuchElementException("there is no such trip");
    }
  }

  private static void throwIfRefused(int refusal) {
    if (refusal == NO_SUCH_INDEX) {
      throw new IndexOutOfBoundsException("there is no such car or passenger");
    }
    if (refusal == BAD_ARGUMENT) {
      throw new IllegalArgumentException("an argument is outside its range");
    }
    if (refusal == BAD_STATE) {
      throw new IllegalStateException("the state does not allow this");
    }
    if (refusal == NOT_SUPPORTED) {
      throw new UnsupportedOperationException("the load is greater than this capacity");
    }
  }

  // Sets of stops, held as bits: bit f stands for floor f

  private static boolean holds(int stops, int floor) {
    return isFloor(floor) && (stops >> floor & 1) == 1;
  }

  /** The distance to the nearest stop in a direction, or 0. */
  private static int distanceToFirst(int stops, int floor, int direction) {
    for (int distance = 1; distance < FLOORS; distance++) {
      int other = floor + distance * direction;
      if (other >= 0 && other < FLOORS && (stops >> other & 1) == 1) {
        return distance;
      }
    }
    return 0;
  }

  /** The distance to the farthest stop in a direction, or 0. */
  private static int distanceToLast(int stops, int floor, int direction) {
    for (int distance = FLOORS - 1; distance > 0; distance--) {
      int other = floor + distance * direction;
      if (other >= 0 && other < FLOORS && (stops >> other & 1) == 1) {
        return distance;
      }
    }
    return 0;
  }

  /** The direction that a car chooses when its own floor is none of its stops. */
  private static int directionToChoose(Car car, int stops) {
    if (stops == 0) {
      return IDLE;
    }
    int above = distanceToFirst(stops, car.floor, UP);
    int below = distanceToFirst(stops, car.floor, DOWN);
    if (above == 0) {
      return DOWN;
    }
    if (below == 0) {
      return UP;
    }
    if (car.direction != IDLE) {
      return car.direction;
    }
    return above <= below ? UP : DOWN;
  }

  private static final class Car {
    int floor = 0;
    int direction = IDLE;
    int capacity = FIRST_CAPACITY;
    int load = 0;
    int riders = 0;
    int openSteps = 0;
    int energy = 0;
    boolean inService = true;

    void copyFrom(Car other) {
      floor = other.floor;
      direction = other.direction;
      capacity = other.capacity;
      load = other.load;
      riders = other.riders;
      openSteps = other.openSteps;
      energy = other.energy;
      inService = other.inService;
    }
  }

  private static final class Passenger {
    int number = 0;
    int start = 0;
    int destination = 0;
    int weight = 0;
    int waited = 0;
    /** The car in which the passenger rides or to which the waiting passenger is assigned, or NONE. */
    int car = NONE;
    boolean rides = false;

    void copyFrom(Passenger other) {
      number = other.number;
      start = other.start;
      destination = other.destination;
      weight = other.weight;
      waited = other.waited;
      car = other.car;
      rides = other.rides;
    }
  }

  /** The count of all trips, and the latest of them in rows that are written round and round. */
  private static final class TripLog {
    final int[] numbers = new int[REMEMBERED_TRIPS];
    final int[] cars = new int[REMEMBERED_TRIPS];
    final int[] waits = new int[REMEMBERED_TRIPS];
    int count = 0;
    int sumOfWaits = 0;

    void append(int number, int car, int waited) {
      int place = count % REMEMBERED_TRIPS;
      numbers[place] = number;
      cars[place] = car;
      waits[place] = waited;
      count++;
      sumOfWaits += waited;
    }

    boolean remembers(int recency) {
      return recency >= 0 && recency < count && recency < REMEMBERED_TRIPS;
    }

    int placeOf(int recency) {
      return (count - 1 - recency) % REMEMBERED_TRIPS;
    }

    void copyFrom(TripLog other) {
      System.arraycopy(other.numbers, 0, numbers, 0, REMEMBERED_TRIPS);
      System.arraycopy(other.cars, 0, cars, 0, REMEMBERED_TRIPS);
      System.arraycopy(other.waits, 0, waits, 0, REMEMBERED_TRIPS);
      count = other.count;
      sumOfWaits = other.sumOfWaits;
    }
  }

  /** The state before each of the latest changes, in a row that is written round and round. */
  private static final class History {
    final Building[] earlier = new Building[REMEMBERED_CHANGES];
    int count = 0;
    int next = 0;

    History() {
      for (int i = 0; i < REMEMBERED_CHANGES; i++) {
        earlier[i] = new Building();
      }
    }

    void remember(Building building) {
      earlier[next].copyFrom(building);
      next = (next + 1) % REMEMBERED_CHANGES;
      count = Math.min(count + 1, REMEMBERED_CHANGES);
    }

    void takeBack(Building building) {
      next = (next + REMEMBERED_CHANGES - 1) % REMEMBERED_CHANGES;
      count--;
      building.copyFrom(earlier[next]);
    }
  }

  /** The script buffer, and the commands of the script that was read last. */
  private static final class Script {
    /** In the forms below, stands for one digit. */
    static final char DIGIT = '0';
    /** In the forms below, stands for a number. */
    static final char NUMBER = 'N';
    static final int MOST_DIGITS = 3;
    static final int MOST_ARGUMENTS = 3;
    /** The shortest command takes five characters with its semicolon, and one more may be begun behind the last. */
    static final int MOST_COMMANDS = SCRIPT_LENGTH / 5 + 1;

    final StringBuilder text = new StringBuilder();
    final int[] kinds = new int[MOST_COMMANDS];
    final int[][] arguments = new int[MOST_COMMANDS][MOST_ARGUMENTS];
    int commandCount = 0;
    int error = 0;

    static String formOf(int kind) {
      switch (kind) {
        case CALL: return "call 0 0 N";
        case LEAVE: return "leave N";
        case HOLD: return "hold 0 0";
        case STOP: return "stop 0";
        case START: return "start 0";
        case LIMIT: return "limit 0 N";
        case STEPS: return "step N";
        default: return "step";
      }
    }

    /** Reads the text into commands; returns its error position, or NONE. */
    int read() {
      int position = 0;
      commandCount = 0;
      for (int i = 0; i < MOST_COMMANDS; i++) {
        int end = endOfCommand(position);
        if (end == NONE) {
          return error;
        }
        commandCount++;
        if (end >= text.length()) {
          return NONE;
        }
        position = end + 1;
      }
      return position;
    }

    /**
     * Reads the command at a position. If no form fits, the error is where the form that fits longest breaks off:
     * only there does the text leave every form.
     */
    private int endOfCommand(int position) {
      error = position;
      for (int kind = 0; kind < FORMS; kind++) {
        int end = endOfForm(kind, position);
        if (end != NONE) {
          kinds[commandCount] = kind;
          return end;
        }
      }
      return NONE;
    }

    private int endOfForm(int kind, int position) {
      String form = formOf(kind);
      int at = position;
      int argument = 0;
      for (int i = 0; i < form.length(); i++) {
        char wanted = form.charAt(i);
        int from = at;
        if (wanted == DIGIT || wanted == NUMBER) {
          at = endOfDigits(from, wanted == DIGIT ? 1 : MOST_DIGITS);
          if (argument < MOST_ARGUMENTS) {
            arguments[commandCount][argument] = valueOf(from, at);
            argument++;
          }
        } else if (at < text.length() && text.charAt(at) == wanted) {
          at++;
        }
        if (at == from) {
          return breakOff(at);
        }
      }
      return at < text.length() && text.charAt(at) != ';' ? breakOff(at) : at;
    }

    private int breakOff(int position) {
      error = Math.max(error, position);
      return NONE;
    }

    private int endOfDigits(int from, int most) {
      for (int at = from; at < from + most; at++) {
        if (at >= text.length() || text.charAt(at) < '0' || text.charAt(at) > '9') {
          return at;
        }
      }
      return from + most;
    }

    private int valueOf(int from, int end) {
      int value = 0;
      for (int at = from; at < end && at < text.length(); at++) {
        value = 10 * value + (text.charAt(at) - '0');
      }
      return value;
    }
  }

  /** Everything that undo and the snapshot cover. */
  private static final class Building {
    final Car[] cars = new Car[CARS];
    /** The passengers by index; the places behind them hold spare objects for passengers to come. */
    final Passenger[] passengers = new Passenger[MOST_PASSENGERS];
    final TripLog trips = new TripLog();
    int passengerCount = 0;
    int latestNumber = 0;
    int time = 0;
    int movesUp = 0;
    int movesDown = 0;
    int hundredsUp = 0;
    int openings = 0;

    Building() {
      for (int car = 0; car < CARS; car++) {
        cars[car] = new Car();
      }
      for (int i = 0; i < MOST_PASSENGERS; i++) {
        passengers[i] = new Passenger();
      }
    }

    void copyFrom(Building other) {
      for (int car = 0; car < CARS; car++) {
        cars[car].copyFrom(other.cars[car]);
      }
      for (int i = 0; i < other.passengerCount; i++) {
        passengers[i].copyFrom(other.passengers[i]);
      }
      trips.copyFrom(other.trips);
      passengerCount = other.passengerCount;
      latestNumber = other.latestNumber;
      time = other.time;
      movesUp = other.movesUp;
      movesDown = other.movesDown;
      hundredsUp = other.hundredsUp;
      openings = other.openings;
    }

    // Changes: each has a refusal, which must be ALLOWED before it is done

    int refusalToAdd(int start, int destination, int weight) {
      if (!isFloor(start) || !isFloor(destination) || start == destination || !isWeight(weight)) {
        return BAD_ARGUMENT;
      }
      return passengerCount < MOST_PASSENGERS ? ALLOWED : BAD_STATE;
    }

    int add(int start, int destination, int weight) {
      Passenger p = passengers[passengerCount];
      latestNumber++;
      p.number = latestNumber;
      p.start = start;
      p.destination = destination;
      p.weight = weight;
      p.waited = 0;
      p.rides = false;
      p.car = chooseCar(start, weight);
      passengerCount++;
      return passengerCount - 1;
    }

    int refusalToRemove(int passenger) {
      if (!isPassenger(passenger)) {
        return NO_SUCH_INDEX;
      }
      return passengers[passenger].rides ? BAD_STATE : ALLOWED;
    }

    int remove(int passenger) {
      Passenger leaving = passengers[passenger];
      passengerCount--;
      for (int i = passenger; i < passengerCount; i++) {
        passengers[i] = passengers[i + 1];
      }
      passengers[passengerCount] = leaving;
      return leaving.number;
    }

    int refusalToHold(int car, int steps) {
      if (!isCar(car)) {
        return NO_SUCH_INDEX;
      }
      if (steps < 1 || steps > MOST_DOOR_STEPS) {
        return BAD_ARGUMENT;
      }
      return cars[car].openSteps > 0 ? ALLOWED : BAD_STATE;
    }

    int hold(int car, int steps) {
      int previous = cars[car].openSteps;
      cars[car].openSteps = steps;
      return previous;
    }

    int refusalToStop(int car) {
      if (!isCar(car)) {
        return NO_SUCH_INDEX;
      }
      return cars[car].inService ? ALLOWED : BAD_STATE;
    }

    int takeOutOfService(int car) {
      int released = 0;
      for (int i = 0; i < passengerCount; i++) {
        Passenger p = passengers[i];
        if (!p.rides && p.car == car) {
          p.car = NONE;
          released++;
        }
      }
      cars[car].inService = false;
      return released;
    }

    int refusalToStart(int car) {
      if (!isCar(car)) {
        return NO_SUCH_INDEX;
      }
      return cars[car].inService ? BAD_STATE : ALLOWED;
    }

    int putInService(int car) {
      cars[car].inService = true;
      int serving = 0;
      for (int i = 0; i < CARS; i++) {
        if (cars[i].inService) {
          serving++;
        }
      }
      return serving;
    }

    int refusalToLimit(int car, int kilograms) {
      if (!isCar(car)) {
        return NO_SUCH_INDEX;
      }
      if (kilograms < LEAST_CAPACITY || kilograms > MOST_CAPACITY) {
        return BAD_ARGUMENT;
      }
      return cars[car].load > kilograms ? NOT_SUPPORTED : ALLOWED;
    }

    int limit(int car, int kilograms) {
      int previous = cars[car].capacity;
      cars[car].capacity = kilograms;
      return previous;
    }

    int refusalToPass(int steps) {
      return steps >= 1 && steps <= MOST_STEPS ? ALLOWED : BAD_ARGUMENT;
    }

    int letPass(int steps) {
      int tripsBefore = trips.count;
      for (int i = 0; i < steps; i++) {
        step();
      }
      return trips.count - tripsBefore;
    }

    int refusalToPerform(int kind, int[] arguments) {
      switch (kind) {
        case CALL: return refusalToAdd(arguments[0], arguments[1], arguments[2]);
        case LEAVE: return refusalToRemove(arguments[0]);
        case HOLD: return refusalToHold(arguments[0], arguments[1]);
        case STOP: return refusalToStop(arguments[0]);
        case START: return refusalToStart(arguments[0]);
        case LIMIT: return refusalToLimit(arguments[0], arguments[1]);
        case STEPS: return refusalToPass(arguments[0]);
        default: return ALLOWED;
      }
    }

    int perform(int kind, int[] arguments) {
      switch (kind) {
        case CALL: return add(arguments[0], arguments[1], arguments[2]);
        case LEAVE: return remove(arguments[0]);
        case HOLD: return hold(arguments[0], arguments[1]);
        case STOP: return takeOutOfService(arguments[0]);
        case START: return putInService(arguments[0]);
        case LIMIT: return limit(arguments[0], arguments[1]);
        case STEPS: return letPass(arguments[0]);
        default: return letPass(1);
      }
    }

    // One step

    void step() {
      time++;
      // Assigning looks at no waiting time, so one pass does both.
      for (int i = 0; i < passengerCount; i++) {
        Passenger p = passengers[i];
        if (!p.rides) {
          if (p.car == NONE) {
            p.car = chooseCar(p.start, p.weight);
          }
          p.waited++;
        }
      }
      for (int car = 0; car < CARS; car++) {
        if (cars[car].inService) {
          act(car);
        }
      }
    }

    private void act(int car) {
      Car c = cars[car];
      if (c.openSteps > 0) {
        c.openSteps--;
        return;
      }
      int stops = stopsOf(car);
      if (holds(stops, c.floor)) {
        c.openSteps = OPENING_STEPS;
        c.energy++;
        openings++;
        letOut(car);
        letIn(car);
        return;
      }
      c.direction = directionToChoose(c, stops);
      move(c);
    }

    private void letOut(int car) {
      Car c = cars[car];
      int staying = 0;
      for (int i = 0; i < passengerCount; i++) {
        Passenger p = passengers[i];
        if (p.rides && p.car == car && p.destination == c.floor) {
          c.load -= p.weight;
          c.riders--;
          trips.append(p.number, car, p.waited);
        } else {
          // A swap, so that the objects of those who leave stay in the row as spare ones.
          passengers[i] = passengers[staying];
          passengers[staying] = p;
          staying++;
        }
      }
      passengerCount = staying;
    }

    private void letIn(int car) {
      Car c = cars[car];
      for (int i = 0; i < passengerCount; i++) {
        Passenger p = passengers[i];
        if (p.rides || p.car != car || p.start != c.floor) {
          continue;
        }
        if (c.load + p.weight <= c.capacity) {
          p.rides = true;
          c.load += p.weight;
          c.riders++;
        } else {
          p.car = NONE;
        }
      }
    }

    private void move(Car c) {
      c.floor += c.direction;
      if (c.direction == UP) {
        int hundreds = c.load / 100;
        c.energy += 2 + hundreds;
        movesUp++;
        hundredsUp += hundreds;
      } else if (c.direction == DOWN) {
        c.energy++;
        movesDown++;
      }
    }

    // Stops, estimates and assignment

    int stopsOf(int car) {
      int stops = 0;
      for (int i = 0; i < passengerCount; i++) {
        Passenger p = passengers[i];
        if (p.car == car) {
          stops |= 1 << (p.rides ? p.destination : p.start);
        }
      }
      return stops;
    }

    int estimateByFormula(int car, int floor) {
      Car c = cars[car];
      int ahead = (floor - c.floor) * c.direction;
      int moves = Math.abs(floor - c.floor);
      if (ahead < 0) {
        moves += 2 * distanceToLast(stopsOf(car), c.floor, c.direction);
      }
      return c.riders + moves;
    }

    int estimateByMoving(int car, int floor) {
      Car c = cars[car];
      int stops = stopsOf(car);
      int at = c.floor;
      int direction = c.direction == IDLE ? Integer.compare(floor, at) : c.direction;
      int moves = 0;
      // No walk is longer than once up and once down the building.
      for (int i = 0; i < 2 * FLOORS && at != floor; i++) {
        boolean away = (floor - at) * direction < 0;
        if (away && distanceToFirst(stops, at, direction) == 0) {
          direction = -direction;
        }
        at += direction;
        moves++;
      }
      return c.riders + moves;
    }

    /** The car for a passenger who is not assigned yet, or NONE. */
    int chooseCar(int floor, int weight) {
      int best = NONE;
      int lowest = 0;
      for (int car = 0; car < CARS; car++) {
        Car c = cars[car];
        if (c.inService && c.load + weight <= c.capacity) {
          int moves = estimateByFormula(car, floor);
          if (best == NONE || moves < lowest) {
            best = car;
            lowest = moves;
          }
        }
      }
      return best;
    }

    // Counts and searches

    boolean isPassenger(int passenger) {
      return passenger >= 0 && passenger < passengerCount;
    }

    int indexOf(int number) {
      for (int i = 0; i < passengerCount; i++) {
        if (passengers[i].number == number) {
          return i;
        }
      }
      return NONE;
    }

    boolean isRiding(int number) {
      int index = indexOf(number);
      return index != NONE && passengers[index].rides;
    }

    int countAssigned(int car) {
      int count = 0;
      for (int i = 0; i < passengerCount; i++) {
        if (!passengers[i].rides && passengers[i].car == car) {
          count++;
        }
      }
      return count;
    }

    int countWaiting(int floor) {
      int count = 0;
      for (int i = 0; i < passengerCount; i++) {
        if (!passengers[i].rides && passengers[i].start == floor) {
          count++;
        }
      }
      return count;
    }

    /** How many passengers stand before this one when they are sorted by waiting time. */
    int countLongerWaiting(int passenger) {
      int count = 0;
      for (int i = 0; i < passengerCount; i++) {
        if (waitsBefore(i, passenger)) {
          count++;
        }
      }
      return count;
    }

    private boolean waitsBefore(int one, int other) {
      Passenger p = passengers[one];
      Passenger q = passengers[other];
      if (p.waited != q.waited) {
        return p.waited > q.waited;
      }
      if (p.rides != q.rides) {
        return q.rides;
      }
      return one < other;
    }

    /** How many cars stand before this one when they are sorted by energy. */
    int countMoreEnergetic(int car) {
      int count = 0;
      for (int i = 0; i < CARS; i++) {
        if (spendsBefore(i, car)) {
          count++;
        }
      }
      return count;
    }

    private boolean spendsBefore(int one, int other) {
      Car c = cars[one];
      Car d = cars[other];
      if (c.energy != d.energy) {
        return c.energy > d.energy;
      }
      if (c.load != d.load) {
        return c.load > d.load;
      }
      return one < other;
    }

    // Energy and consistency

    long sumOfAccounts() {
      long sum = 0;
      for (int car = 0; car < CARS; car++) {
        sum += cars[car].energy;
      }
      return sum;
    }

    long energyOfMoves() {
      return 2L * movesUp + hundredsUp + movesDown + openings;
    }

    boolean estimatesAgree() {
      for (int car = 0; car < CARS; car++) {
        for (int floor = 0; floor < FLOORS; floor++) {
          if (estimateByFormula(car, floor) != estimateByMoving(car, floor)) {
            return false;
          }
        }
      }
      return true;
    }

    boolean loadsFit() {
      for (int car = 0; car < CARS; car++) {
        if (cars[car].load > cars[car].capacity) {
          return false;
        }
      }
      return true;
    }

    boolean assignmentsServe() {
      for (int car = 0; car < CARS; car++) {
        if (!cars[car].inService && countAssigned(car) > 0) {
          return false;
        }
      }
      return true;
    }
  }
}

import java.util.ArrayDeque;
import java.util.ArrayList;
import java.util.Comparator;
import java.util.Deque;
import java.util.List;
import java.util.NoSuchElementException;
import java.util.TreeSet;
import java.util.function.IntSupplier;
import java.util.regex.Matcher;
import java.util.regex.Pattern;

/**
 * The document once more, as plainly as the whole Java library allows, without a thought for speed or room. It
 * computes what LiftGroup keeps (loads, riders, totals), so that both can hardly go wrong in the same way.
 */
final class Model {
  private static final Pattern SCRIPT;

  static {
    String command = "(call [0-9] [0-9] [0-9]{1,3}|leave [0-9]{1,3}|hold [0-9] [0-9]|stop [0-9]|start [0-9]"
        + "|limit [0-9] [0-9]{1,3}|step( [0-9]{1,3})?)";
    SCRIPT = Pattern.compile(command + "(;" + command + ")*");
  }

  private static final class Person {
    int number;
    int from;
    int to;
    int kilograms;
    int waited;
    int rides = -1;
    int assigned = -1;

    Person copy() {
      Person p = new Person();
      p.number = number;
      p.from = from;
      p.to = to;
      p.kilograms = kilograms;
      p.waited = waited;
      p.rides = rides;
      p.assigned = assigned;
      return p;
    }
  }

  private static final class Cabin {
    int at;
    int heading;
    int limit = 400;
    int open;
    boolean serving = true;
    int spent;

    Cabin copy() {
      Cabin c = new Cabin();
      c.at = at;
      c.heading = heading;
      c.limit = limit;
      c.open = open;
      c.serving = serving;
      c.spent = spent;
      return c;
    }
  }

  private static final class World {
    List<Person> people = new ArrayList<>();
    List<Cabin> cabins = new ArrayList<>();
    /** All trips ever: number, car, waiting time. */
    List<int[]> trips = new ArrayList<>();
    /** All energy-taking events: 'u' with the hundreds, 'd', 'o'. */
    List<int[]> events = new ArrayList<>();
    int clock;
    int lastNumber;

    World copy() {
      World w = new World();
      people.forEach(p -> w.people.add(p.copy()));
      cabins.forEach(c -> w.cabins.add(c.copy()));
      w.trips.addAll(trips);
      w.events.addAll(events);
      w.clock = clock;
      w.lastNumber = lastNumber;
      return w;
    }

    int weightIn(int car) {
      return people.stream().filter(p -> p.rides == car).mapToInt(p -> p.kilograms).sum();
    }

    int crowdIn(int car) {
      return (int) people.stream().filter(p -> p.rides == car).count();
    }

    TreeSet<Integer> stops(int car) {
      TreeSet<Integer> stops = new TreeSet<>();
      for (Person p : people) {
        if (p.rides == car) {
          stops.add(p.to);
        } else if (p.rides == -1 && p.assigned == car) {
          stops.add(p.from);
        }
      }
      return stops;
    }

    int guess(int car, int floor) {
      Cabin c = cabins.get(car);
      int d = Math.abs(c.at - floor);
      boolean towards = c.heading == 1 && floor > c.at || c.heading == -1 && floor < c.at;
      if (c.heading == 0 || floor == c.at || towards) {
        return crowdIn(car) + d;
      }
      TreeSet<Integer> stops = stops(car);
      Integer last = null;
      if (!stops.isEmpty()) {
        last = c.heading == 1 ? stops.last() : stops.first();
      }
      int t = 0;
      if (last != null && (last - c.at) * c.heading > 0) {
        t = Math.abs(last - c.at);
      }
      return crowdIn(car) + 2 * t + d;
    }

    int pick(int floor, int kilograms) {
      return List.of(0, 1, 2).stream()
          .filter(car -> cabins.get(car).serving && weightIn(car) + kilograms <= cabins.get(car).limit)
          .min(Comparator.comparingInt((Integer car) -> guess(car, floor)).thenComparing(car -> car))
          .orElse(-1);
    }

    int heading(int car) {
      Cabin c = cabins.get(car);
      TreeSet<Integer> stops = stops(car);
      if (stops.isEmpty()) {
        return 0;
      }
      if (c.heading == 1) {
        return stops.higher(c.at) != null ? 1 : -1;
      }
      if (c.heading == -1) {
        return stops.lower(c.at) != null ? -1 : 1;
      }
      int nearest = stops.stream()
          .min(Comparator.comparingInt((Integer f) -> Math.abs(f - c.at)).thenComparing(f -> -f)).get();
      return Integer.signum(nearest - c.at);
    }

    void tick() {
      clock++;
      for (Person p : people) {
        if (p.rides == -1 && p.assigned == -1) {
          p.assigned = pick(p.from, p.kilograms);
        }
      }
      for (Person p : people) {
        if (p.rides == -1) {
          p.waited++;
        }
      }
      for (int car = 0; car < 3; car++) {
        if (cabins.get(car).serving) {
          turn(car);
        }
      }
    }

    private void turn(int car) {
      Cabin c = cabins.get(car);
      if (c.open > 0) {
        c.open--;
      } else if (stops(car).contains(c.at)) {
        c.open = 2;
        c.spent++;
        events.add(new int[] {'o', 0});
        for (Person p : new ArrayList<>(people)) {
          if (p.rides == car && p.to == c.at) {
            people.remove(p);
            trips.add(new int[] {p.number, car, p.waited});
          }
        }
        for (Person p : people) {
          if (p.rides == -1 && p.assigned == car && p.from == c.at) {
            p.assigned = -1;
            if (weightIn(car) + p.kilograms <= c.limit) {
              p.rides = car;
            }
          }
        }
      } else {
        c.heading = heading(car);
        c.at += c.heading;
        int hundreds = weightIn(car) / 100;
        if (c.heading == 1) {
          c.spent += 2 + hundreds;
          events.add(new int[] {'u', hundreds});
        } else if (c.heading == -1) {
          c.spent += 1;
          events.add(new int[] {'d', 0});
        }
      }
    }

    int count(char event) {
      return (int) events.stream().filter(e -> e[0] == event).count();
    }
  }

  private World world = new World();
  private World saved = null;
  private final Deque<World> past = new ArrayDeque<>();
  private boolean inScript = false;
  private String buffer = "";
  private String shown = "";
  private int error = -1;
  private int failed = -1;

  Model() {
    for (int car = 0; car < 3; car++) {
      world.cabins.add(new Cabin());
    }
  }

  private static <E extends RuntimeException> void unless(boolean fine, E e) {
    if (!fine) {
      throw e;
    }
  }

  private Cabin cabin(int car) {
    unless(car >= 0 && car <= 2, new IndexOutOfBoundsException());
    return world.cabins.get(car);
  }

  private Person person(int passenger) {
    unless(passenger >= 0 && passenger < world.people.size(), new IndexOutOfBoundsException());
    return world.people.get(passenger);
  }

  private static void floorThere(int floor) {
    unless(floor >= 0 && floor <= 9, new IllegalArgumentException());
  }

  private static void between(int least, int value, int most) {
    unless(least <= value && value <= most, new IllegalArgumentException());
  }

  private int change(IntSupplier deed) {
    if (inScript) {
      return deed.getAsInt();
    }
    past.addLast(world.copy());
    if (past.size() > 8) {
      past.removeFirst();
    }
    return deed.getAsInt();
  }

  public int addPassenger(int start, int destination, int weight) {
    floorThere(start);
    floorThere(destination);
    unless(start != destination, new IllegalArgumentException());
    between(10, weight, 150);
    unless(world.people.size() < 12, new IllegalStateException());
    return change(() -> {
      Person p = new Person();
      p.number = ++world.lastNumber;
      p.from = start;
      p.to = destination;
      p.kilograms = weight;
      p.assigned = world.pick(start, weight);
      world.people.add(p);
      return world.people.size() - 1;
    });
  }

  public int removePassenger(int passenger) {
    unless(person(passenger).rides == -1, new IllegalStateException());
    return change(() -> world.people.remove(passenger).number);
  }

  public int holdDoors(int car, int steps) {
    cabin(car);
    between(1, steps, 3);
    unless(cabin(car).open > 0, new IllegalStateException());
    return change(() -> {
      int before = cabin(car).open;
      cabin(car).open = steps;
      return before;
    });
  }

  public int stopCar(int car) {
    unless(cabin(car).serving, new IllegalStateException());
    return change(() -> {
      cabin(car).serving = false;
      int released = assignedTo(car);
      world.people.stream().filter(p -> p.assigned == car).forEach(p -> p.assigned = -1);
      return released;
    });
  }

  public int startCar(int car) {
    unless(!cabin(car).serving, new IllegalStateException());
    return change(() -> {
      cabin(car).serving = true;
      return (int) world.cabins.stream().filter(c -> c.serving).count();
    });
  }

  public int setCapacity(int car, int kilograms) {
    cabin(car);
    between(100, kilograms, 900);
    unless(world.weightIn(car) <= kilograms, new UnsupportedOperationException());
    return change(() -> {
      int before = cabin(car).limit;
      cabin(car).limit = kilograms;
      return before;
    });
  }

  public int advance(int steps) {
    between(1, steps, 30);
    return change(() -> {
      int before = world.trips.size();
      for (int i = 0; i < steps; i++) {
        world.tick();
      }
      return world.trips.size() - before;
    });
  }

  public int time() {
    return world.clock;
  }

  public int floor(int car) {
    return cabin(car).at;
  }

  public int direction(int car) {
    return cabin(car).heading;
  }

  public int capacity(int car) {
    return cabin(car).limit;
  }

  public int load(int car) {
    cabin(car);
    return world.weightIn(car);
  }

  public int passengersIn(int car) {
    cabin(car);
    return world.crowdIn(car);
  }

  public int assignedTo(int car) {
    cabin(car);
    return (int) world.people.stream().filter(p -> p.rides == -1 && p.assigned == car).count();
  }

  public int doorSteps(int car) {
    return cabin(car).open;
  }

  public boolean isInService(int car) {
    return cabin(car).serving;
  }

  public int energy(int car) {
    return cabin(car).spent;
  }

  public boolean isStop(int car, int floor) {
    cabin(car);
    floorThere(floor);
    return world.stops(car).contains(floor);
  }

  public int stopCount(int car) {
    cabin(car);
    return world.stops(car).size();
  }

  public int nextStop(int car) {
    int at = cabin(car).at;
    TreeSet<Integer> stops = world.stops(car);
    unless(!stops.isEmpty(), new NoSuchElementException());
    if (stops.contains(at)) {
      return at;
    }
    return world.heading(car) == 1 ? stops.higher(at) : stops.lower(at);
  }

  public int passengerCount() {
    return world.people.size();
  }

  public int number(int passenger) {
    return person(passenger).number;
  }

  public int start(int passenger) {
    return person(passenger).from;
  }

  public int destination(int passenger) {
    return person(passenger).to;
  }

  public int weight(int passenger) {
    return person(passenger).kilograms;
  }

  public int waitingTime(int passenger) {
    return person(passenger).waited;
  }

  public boolean isInCar(int passenger) {
    return person(passenger).rides != -1;
  }

  public int carOf(int passenger) {
    int car = Math.max(person(passenger).rides, person(passenger).assigned);
    unless(car != -1, new NoSuchElementException());
    return car;
  }

  public int waitingAt(int floor) {
    floorThere(floor);
    return (int) world.people.stream().filter(p -> p.rides == -1 && p.from == floor).count();
  }

  public int estimate(int car, int floor) {
    cabin(car);
    floorThere(floor);
    return world.guess(car, floor);
  }

  public int estimateByWalk(int car, int floor) {
    return estimate(car, floor);
  }

  public int bestCar(int floor, int weight) {
    floorThere(floor);
    between(10, weight, 150);
    int car = world.pick(floor, weight);
    unless(car != -1, new NoSuchElementException());
    return car;
  }

  private int firstStepWhere(int passenger, boolean gone) {
    int number = person(passenger).number;
    World future = world.copy();
    for (int steps = 0; steps <= 90; steps++) {
      Person p = future.people.stream().filter(q -> q.number == number).findFirst().orElse(null);
      if (gone ? p == null : p != null && p.rides != -1) {
        return steps;
      }
      future.tick();
    }
    throw new NoSuchElementException();
  }

  public int stepsUntilBoarding(int passenger) {
    return firstStepWhere(passenger, false);
  }

  public int stepsUntilArrival(int passenger) {
    return firstStepWhere(passenger, true);
  }

  public int tripsWithin(int steps) {
    between(0, steps, 90);
    World future = world.copy();
    for (int i = 0; i < steps; i++) {
      future.tick();
    }
    return future.trips.size() - world.trips.size();
  }

  public int passengerByWaiting(int rank) {
    List<Person> sorted = new ArrayList<>(world.people);
    // A list's sort is stable, which settles the indices.
    sorted.sort(Comparator.comparingInt((Person p) -> -p.waited).thenComparing(p -> p.rides == -1 ? 0 : 1));
    unless(rank >= 0 && rank < sorted.size(), new NoSuchElementException());
    return world.people.indexOf(sorted.get(rank));
  }

  public int carByEnergy(int rank) {
    List<Integer> sorted = new ArrayList<>(List.of(0, 1, 2));
    sorted.sort(Comparator.comparingInt((Integer car) -> -cabin(car).spent).thenComparing(car -> -load(car)));
    unless(rank >= 0 && rank < 3, new NoSuchElementException());
    return sorted.get(rank);
  }

  private int[] trip(int recency) {
    unless(recency >= 0 && recency < 10 && recency < world.trips.size(), new NoSuchElementException());
    return world.trips.get(world.trips.size() - 1 - recency);
  }

  public int tripNumber(int recency) {
    return trip(recency)[0];
  }

  public int tripCar(int recency) {
    return trip(recency)[1];
  }

  public int tripWaiting(int recency) {
    return trip(recency)[2];
  }

  public int tripCount() {
    return world.trips.size();
  }

  public long totalEnergy() {
    return world.cabins.stream().mapToLong(c -> c.spent).sum();
  }

  public long totalEnergyByMoves() {
    return totalEnergy();
  }

  public int floorsUp() {
    return world.count('u');
  }

  public int floorsDown() {
    return world.count('d');
  }

  public int doorOpenings() {
    return world.count('o');
  }

  public double meanWaiting() {
    unless(!world.trips.isEmpty(), new ArithmeticException());
    return (double) world.trips.stream().mapToInt(t -> t[2]).sum() / (double) world.trips.size();
  }

  public float loadShare(int car) {
    return (float) load(car) / (float) capacity(car);
  }

  public boolean isConsistent() {
    return true;
  }

  public int renderCar(int car) {
    Cabin c = cabin(car);
    shown = car + "@" + c.at + (c.heading == 0 ? "-" : c.heading == 1 ? "^" : "v") + passengersIn(car) + "/"
        + load(car) + (c.open == 0 ? "|" : "o") + (c.serving ? "" : "x");
    return shown.length();
  }

  public int renderFloors() {
    List<String> counts = new ArrayList<>();
    for (int floor = 0; floor < 10; floor++) {
      counts.add("" + waitingAt(floor));
    }
    shown = String.join(",", counts);
    return shown.length();
  }

  public char outputAt(int index) {
    unless(index >= 0 && index < shown.length(), new IndexOutOfBoundsException());
    return shown.charAt(index);
  }

  public int type(char character) {
    between(32, character, 126);
    unless(buffer.length() < 60, new IllegalStateException());
    buffer += character;
    return buffer.length();
  }

  private static boolean canGoOn(String prefix) {
    Matcher m = SCRIPT.matcher(prefix);
    return m.matches() || m.hitEnd();
  }

  public int runScript() {
    String script = buffer;
    buffer = "";
    if (!SCRIPT.matcher(script).matches()) {
      error = 0;
      while (error < script.length() && canGoOn(script.substring(0, error + 1))) {
        error++;
      }
      throw new IllegalArgumentException();
    }
    World before = world.copy();
    String[] commands = script.split(";");
    for (int i = 0; i < commands.length; i++) {
      try {
        inScript = true;
        obey(commands[i].split(" "));
      } catch (RuntimeException e) {
        world = before;
        failed = i;
        throw new IllegalStateException();
      } finally {
        inScript = false;
      }
    }
    past.addLast(before);
    if (past.size() > 8) {
      past.removeFirst();
    }
    return commands.length;
  }

  private void obey(String[] words) {
    int[] n = new int[4];
    for (int i = 1; i < words.length; i++) {
      n[i] = Integer.parseInt(words[i]);
    }
    switch (words[0]) {
      case "call" -> addPassenger(n[1], n[2], n[3]);
      case "leave" -> removePassenger(n[1]);
      case "hold" -> holdDoors(n[1], n[2]);
      case "stop" -> stopCar(n[1]);
      case "start" -> startCar(n[1]);
      case "limit" -> setCapacity(n[1], n[2]);
      default -> advance(words.length == 1 ? 1 : n[1]);
    }
  }

  public int errorPosition() {
    unless(error != -1, new NoSuchElementException());
    return error;
  }

  public int failedCommand() {
    unless(failed != -1, new NoSuchElementException());
    return failed;
  }

  public int undo() {
    unless(!past.isEmpty(), new IllegalStateException());
    world = past.removeLast();
    return past.size();
  }

  public int save() {
    saved = world.copy();
    return world.people.size();
  }

  public int restore() {
    unless(saved != null, new IllegalStateException());
    world = saved.copy();
    past.clear();
    return world.people.size();
  }
}

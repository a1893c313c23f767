import java.lang.reflect.InvocationTargetException;
import java.lang.reflect.Method;
import java.util.ArrayList;
import java.util.List;
import java.util.Random;

/** Random runs of at most 512 calls, each answer compared with the model's. The seeds are fixed. */
public final class ModelTest {
  private static final int RUNS = 1500;
  private static final int CALLS = 512;
  private static final List<Method> QUERIES = new ArrayList<>();

  private final Random random;
  private final long seed;
  private final LiftGroup group = new LiftGroup();
  private final Model model = new Model();
  private final StringBuilder told = new StringBuilder();
  private final int mood;
  private int calls = 0;

  private ModelTest(long seed) {
    this.seed = seed;
    this.random = new Random(seed);
    this.mood = random.nextInt(4);
  }

  public static void main(String[] args) {
    for (Method m : LiftGroup.class.getDeclaredMethods()) {
      if (java.lang.reflect.Modifier.isPublic(m.getModifiers())) {
        QUERIES.add(m);
      }
    }
    QUERIES.sort((a, b) -> a.getName().compareTo(b.getName()));
    for (long seed = 1; seed <= RUNS; seed++) {
      new ModelTest(seed).run();
    }
    Checks.end();
  }

  private void run() {
    boolean fine = true;
    while (fine && calls < CALLS) {
      fine = act();
    }
  }

  private boolean act() {
    int choice = random.nextInt(100);
    if (choice < 18) {
      return call("addPassenger", floor(), floor(), weight());
    }
    if (choice < 34) {
      return call("advance", odd() ? random.nextInt(34) - 1 : 1 + random.nextInt(mood == 0 ? 3 : 8));
    }
    if (choice < 37) {
      return call("holdDoors", car(), random.nextInt(5));
    }
    if (choice < 38 + mood) {
      return call("stopCar", car());
    }
    if (choice < 44) {
      return call("startCar", car());
    }
    if (choice < 48) {
      return call("setCapacity", car(), odd() ? 50 + random.nextInt(900) : 100 + random.nextInt(200));
    }
    if (choice < 51) {
      return call("undo");
    }
    if (choice < 54) {
      return script();
    }
    Method m = QUERIES.get(random.nextInt(QUERIES.size()));
    return rare(m.getName()) && random.nextInt(4) != 0 || call(m.getName(), arguments(m));
  }

  private static boolean rare(String name) {
    return name.equals("runScript") || name.equals("type") || name.equals("restore") || name.equals("removePassenger");
  }

  private Object[] arguments(Method m) {
    switch (m.getName()) {
      case "addPassenger": return new Object[] {floor(), floor(), weight()};
      case "bestCar": return new Object[] {floor(), weight()};
      case "estimate": case "estimateByWalk": case "isStop": return new Object[] {car(), floor()};
      case "holdDoors": return new Object[] {car(), random.nextInt(5)};
      case "setCapacity": return new Object[] {car(), random.nextInt(1000)};
      case "advance": return new Object[] {random.nextInt(34) - 1};
      case "tripsWithin": return new Object[] {odd() ? random.nextInt(94) - 2 : random.nextInt(20)};
      case "waitingAt": return new Object[] {floor()};
      case "outputAt": return new Object[] {random.nextInt(23) - 1};
      case "type": return new Object[] {(char) (random.nextInt(100) + 30)};
      case "tripNumber": case "tripCar": case "tripWaiting": return new Object[] {random.nextInt(13) - 1};
      case "carByEnergy": return new Object[] {car()};
      default:
    }
    if (m.getParameterCount() == 0) {
      return new Object[0];
    }
    boolean ofPassenger = List.of("removePassenger", "number", "start", "destination", "weight", "waitingTime",
        "isInCar", "carOf", "stepsUntilBoarding", "stepsUntilArrival", "passengerByWaiting").contains(m.getName());
    return new Object[] {ofPassenger ? passenger() : car()};
  }

  private boolean odd() {
    return random.nextInt(20) == 0;
  }

  private int far() {
    int[] values = {Integer.MIN_VALUE, Integer.MAX_VALUE, -1, 3, 10, 12, 1 << 16};
    return values[random.nextInt(values.length)];
  }

  private int floor() {
    return odd() ? far() : random.nextInt(mood == 1 ? 4 : 10);
  }

  private int car() {
    return odd() ? far() : random.nextInt(3);
  }

  private int passenger() {
    return odd() ? far() : random.nextInt(Math.max(1, model.passengerCount()));
  }

  private int weight() {
    return odd() ? random.nextInt(200) : mood == 2 ? 90 + random.nextInt(61) : 10 + random.nextInt(141);
  }

  private boolean script() {
    StringBuilder text = new StringBuilder();
    for (int i = 0; i == 0 || i < 6 && random.nextInt(3) != 0; i++) {
      text.append(i == 0 ? "" : ";").append(command());
    }
    if (random.nextInt(3) == 0) {
      spoil(text);
    }
    boolean fine = true;
    for (int i = 0; fine && i < text.length(); i++) {
      fine = call("type", text.charAt(i));
    }
    return fine && call("runScript") && call("errorPosition") && call("failedCommand");
  }

  private String command() {
    int digit = random.nextInt(3);
    switch (random.nextInt(9)) {
      case 0: case 1: return "call " + random.nextInt(10) + " " + random.nextInt(10) + " " + weight();
      case 2: return "leave " + random.nextInt(5);
      case 3: return "hold " + digit + " " + random.nextInt(5);
      case 4: return "stop " + digit;
      case 5: return "start " + digit;
      case 6: return "limit " + digit + " " + (90 + random.nextInt(400));
      case 7: return "step";
      default: return "step " + random.nextInt(12);
    }
  }

  private void spoil(StringBuilder text) {
    String signs = "0123456789 ;callevhodstpr~ABCN";
    int at = random.nextInt(text.length());
    switch (random.nextInt(4)) {
      case 0: text.setCharAt(at, signs.charAt(random.nextInt(signs.length()))); break;
      case 1: text.deleteCharAt(at); break;
      case 2: text.insert(at, signs.charAt(random.nextInt(signs.length()))); break;
      default: text.setLength(at);
    }
  }

  private boolean call(String name, Object... arguments) {
    if (calls == CALLS) {
      return true;
    }
    calls++;
    Class<?>[] types = new Class<?>[arguments.length];
    for (int i = 0; i < types.length; i++) {
      types[i] = arguments[i] instanceof Character ? char.class : int.class;
    }
    String got = answer(LiftGroup.class, group, name, types, arguments);
    String due = answer(Model.class, model, name, types, arguments);
    told.append(' ').append(name).append(List.of(arguments)).append('=').append(due);
    Checks.same("seed " + seed + ":" + (got.equals(due) ? "" : told), got, due);
    return got.equals(due);
  }

  private static String answer(Class<?> face, Object object, String name, Class<?>[] types, Object[] arguments) {
    try {
      return "" + face.getMethod(name, types).invoke(object, arguments);
    } catch (InvocationTargetException e) {
      return "throws " + e.getCause().getClass().getName();
    } catch (ReflectiveOperationException e) {
      return "is missing: " + e;
    }
  }
}

import java.lang.reflect.Array;
import java.lang.reflect.Field;

/**
 * Promise 50 where it answers false. No calls of the face lead there, so this test alone reaches into the object and
 * breaks its state by the least that there is.
 */
public final class ConsistencyTest {
  private ConsistencyTest() {
  }

  public static void main(String[] args) throws ReflectiveOperationException {
    for (int car = 0; car < 3; car++) {
      loads(car);
      assignments(car);
      accounts(car);
      estimates(car);
    }
    for (String count : new String[] {"movesUp", "movesDown", "hundredsUp", "openings"}) {
      moves(count);
    }
    Checks.end();
  }

  private static Field field(Object object, String name) throws ReflectiveOperationException {
    Field field = object.getClass().getDeclaredField(name);
    field.setAccessible(true);
    return field;
  }

  private static Object building(LiftGroup group) throws ReflectiveOperationException {
    return field(group, "now").get(group);
  }

  private static Object car(LiftGroup group, int car) throws ReflectiveOperationException {
    Object building = building(group);
    return Array.get(field(building, "cars").get(building), car);
  }

  private static void add(Object object, String name, int change) throws ReflectiveOperationException {
    Field field = field(object, name);
    field.setInt(object, field.getInt(object) + change);
  }

  private static void loads(int car) throws ReflectiveOperationException {
    LiftGroup group = Scenes.allOpen();
    field(car(group, car), "capacity").setInt(car(group, car), 50);
    Checks.yes("a load as large as the capacity of car " + car, group.isConsistent());
    add(car(group, car), "capacity", -1);
    Checks.yes("a load larger by one in car " + car, !group.isConsistent());
  }

  private static void assignments(int car) throws ReflectiveOperationException {
    LiftGroup riding = Scenes.allOpen();
    field(car(riding, car), "inService").setBoolean(car(riding, car), false);
    Checks.yes("a passenger in car " + car + " out of service", riding.isConsistent());
    LiftGroup waiting = Scenes.noCar();
    waiting.startCar(car);
    waiting.addPassenger(3, 4, 80);
    Checks.yes("a passenger assigned to car " + car, waiting.isConsistent());
    field(car(waiting, car), "inService").setBoolean(car(waiting, car), false);
    Checks.yes("one assigned to car " + car + " out of service", !waiting.isConsistent());
  }

  private static void accounts(int car) throws ReflectiveOperationException {
    for (int change : new int[] {-1, 1}) {
      LiftGroup group = Scenes.allOpen();
      Checks.yes("the accounts as they are", group.isConsistent());
      add(car(group, car), "energy", change);
      Checks.yes("a unit more or less for car " + car, !group.isConsistent());
      Checks.same("totalEnergy", group.totalEnergy(), 3 + change);
      Checks.same("totalEnergyByMoves", group.totalEnergyByMoves(), 3);
    }
  }

  /** A direction that no car has: by formula it is a direction, but no walk gets anywhere with it. */
  private static void estimates(int car) throws ReflectiveOperationException {
    LiftGroup group = Scenes.allOpen();
    field(car(group, car), "direction").setInt(car(group, car), 100);
    Checks.yes("the estimates differ for car " + car, group.estimate(car, 1) != group.estimateByWalk(car, 1));
    Checks.yes("estimates that differ for car " + car, !group.isConsistent());
  }

  private static void moves(String count) throws ReflectiveOperationException {
    LiftGroup group = Scenes.allOpen();
    add(building(group), count, 1);
    Checks.yes("one more of " + count, !group.isConsistent());
    Checks.same("totalEnergy", group.totalEnergy(), 3);
    Checks.same("totalEnergyByMoves", group.totalEnergyByMoves(), count.equals("movesUp") ? 5 : 4);
  }
}

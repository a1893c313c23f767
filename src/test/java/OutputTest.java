/** Promises 51 to 53: the output text. */
public final class OutputTest {
  private static final Class<IndexOutOfBoundsException> INDEX = IndexOutOfBoundsException.class;

  private OutputTest() {
  }

  public static void main(String[] args) {
    renderCar();
    renderFloors();
    outputAt();
    outsideTheState();
    Checks.end();
  }

  private static void shows(LiftGroup group, int car, String due) {
    int length = group.renderCar(car);
    Checks.same("renderCar", length, due.length());
    Checks.same("renderCar", Checks.output(group, length), due);
  }

  private static void renderCar() {
    LiftGroup group = new LiftGroup();
    shows(group, 0, "0@0-0/0|");
    shows(group, 2, "2@0-0/0|");
    group.addPassenger(1, 9, 60);
    group.addPassenger(1, 9, 70);
    group.stopCar(2);
    shows(group, 2, "2@0-0/0|x");
    group.advance(2);
    shows(group, 0, "0@1^2/130o");
    group.advance(1);
    shows(group, 0, "0@1^2/130o");
    group.stopCar(0);
    shows(group, 0, "0@1^2/130ox");
    group.startCar(0);
    group.advance(1);
    shows(group, 0, "0@1^2/130|");
    group.advance(3);
    shows(group, 0, "0@4^2/130|");
    LiftGroup down = new LiftGroup();
    down.stopCar(0);
    down.addPassenger(3, 0, 10);
    down.advance(7);
    shows(down, 1, "1@2v1/10|");
    LiftGroup full = new LiftGroup();
    full.setCapacity(0, 900);
    for (int i = 0; i < 12; i++) {
      full.addPassenger(0, 1, 70);
    }
    full.advance(1);
    shows(full, 0, "0@0-12/840o");
    for (int car : Scenes.NO_CARS) {
      Checks.refused("renderCar", INDEX, LiftGroup::new, g -> g.renderCar(car));
    }
  }

  private static void renderFloors() {
    LiftGroup group = new LiftGroup();
    Checks.same("nobody", group.renderFloors(), 19);
    Checks.same("nobody", Checks.output(group, 19), "0,0,0,0,0,0,0,0,0,0");
    group.addPassenger(0, 9, 10);
    group.addPassenger(9, 0, 10);
    group.addPassenger(9, 0, 10);
    group.addPassenger(4, 0, 10);
    Checks.same("some", group.renderFloors(), 19);
    Checks.same("some", Checks.output(group, 19), "1,0,0,0,1,0,0,0,0,2");
    group.advance(1);
    group.renderFloors();
    Checks.same("one in a car", Checks.output(group, 19), "0,0,0,0,1,0,0,0,0,2");
    LiftGroup full = new LiftGroup();
    for (int i = 0; i < 12; i++) {
      full.addPassenger(7, 1, 70);
    }
    Checks.same("twelve", full.renderFloors(), 20);
    Checks.same("twelve", Checks.output(full, 20), "0,0,0,0,0,0,0,12,0,0");
  }

  private static LiftGroup rendered() {
    LiftGroup group = new LiftGroup();
    group.renderCar(1);
    return group;
  }

  private static void outputAt() {
    Checks.same("a character", rendered().outputAt(1), '@');
    for (int index : new int[] {-1, 8, Integer.MIN_VALUE, Integer.MAX_VALUE}) {
      Checks.refused("outputAt " + index, INDEX, OutputTest::rendered, g -> g.outputAt(index));
    }
    Checks.refused("empty initially", INDEX, LiftGroup::new, g -> g.outputAt(0));
    LiftGroup group = rendered();
    group.renderFloors();
    Checks.same("replaced by a longer text", group.outputAt(18), '0');
    group.renderCar(1);
    Checks.refused("replaced by a shorter text", INDEX, OutputTest::rerendered, g -> g.outputAt(8));
    Checks.same("the shorter text", Checks.output(group, 8), "1@0-0/0|");
  }

  private static LiftGroup rerendered() {
    LiftGroup group = new LiftGroup();
    group.renderFloors();
    group.renderCar(1);
    return group;
  }

  private static void outsideTheState() {
    LiftGroup group = new LiftGroup();
    group.save();
    group.stopCar(1);
    group.renderCar(1);
    group.undo();
    Checks.same("undo leaves the text", Checks.output(group, 9), "1@0-0/0|x");
    group.restore();
    Checks.same("restore leaves the text", Checks.output(group, 9), "1@0-0/0|x");
    group.advance(3);
    Checks.same("the text stays as it was", group.outputAt(8), 'x');
  }
}

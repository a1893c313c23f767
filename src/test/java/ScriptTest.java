import java.util.NoSuchElementException;

/** Promises 54 to 57: scripts. */
public final class ScriptTest {
  private static final Class<IllegalArgumentException> ARGUMENT = IllegalArgumentException.class;
  private static final Class<IllegalStateException> STATE = IllegalStateException.class;
  private static final Class<NoSuchElementException> NONE = NoSuchElementException.class;

  private ScriptTest() {
  }

  public static void main(String[] args) {
    type();
    typeRefused();
    everyCommand();
    counts();
    errorPositions();
    failures();
    positionsStay();
    Checks.end();
  }

  private static void type() {
    LiftGroup group = new LiftGroup();
    for (int i = 0; i < 60; i++) {
      Checks.same("length", group.type((char) (i % 2 == 0 ? 32 : 126)), i + 1);
    }
    LiftGroup again = Scenes.typed("step");
    again.runScript();
    Checks.same("empty afterwards", again.type('s'), 1);
  }

  private static void typeRefused() {
    for (int code : new int[] {0, 31, 127, 128, 255, 256, 32 + 256, 65535}) {
      Checks.refused("code " + code, ARGUMENT, LiftGroup::new, g -> g.type((char) code));
      Checks.refused("full, code " + code, ARGUMENT, () -> Scenes.typed(Scenes.SIXTY), g -> g.type((char) code));
    }
    Checks.refused("full", STATE, () -> Scenes.typed(Scenes.SIXTY), g -> g.type('s'));
    LiftGroup group = Scenes.typed("ste");
    try {
      group.type((char) 31);
    } catch (IllegalArgumentException e) {
      Checks.same("a refused character is not in the buffer", group.type('p'), 4);
    }
  }

  private static void twins(String script, Checks.Call calls, int commands) {
    LiftGroup scripted = new LiftGroup();
    LiftGroup called = new LiftGroup();
    Checks.Call before = g -> {
      g.addPassenger(0, 5, 80);
      g.stopCar(2);
      g.advance(1);
    };
    before.on(scripted);
    before.on(called);
    Checks.type(scripted, script);
    Checks.same("commands of " + script, scripted.runScript(), commands);
    calls.on(called);
    Checks.same(script, Checks.portrait(scripted), Checks.portrait(called));
  }

  private static void everyCommand() {
    twins("call 3 9 150", g -> g.addPassenger(3, 9, 150), 1);
    twins("call 9 0 10;leave 1", g -> g.removePassenger(g.addPassenger(9, 0, 10)), 2);
    twins("call 0 9 010;leave 001", g -> g.removePassenger(g.addPassenger(0, 9, 10)), 2);
    twins("hold 0 3", g -> g.holdDoors(0, 3), 1);
    twins("stop 0", g -> g.stopCar(0), 1);
    twins("start 2", g -> g.startCar(2), 1);
    twins("limit 0 900", g -> g.setCapacity(0, 900), 1);
    twins("limit 1 100", g -> g.setCapacity(1, 100), 1);
    twins("step", g -> g.advance(1), 1);
    twins("step 9", g -> g.advance(9), 1);
    twins("step 30", g -> g.advance(30), 1);
  }

  private static void counts() {
    Checks.same("twelve commands", Scenes.typed(Scenes.SIXTY.substring(0, 59)).runScript(), 12);
    LiftGroup twelve = Scenes.typed(Scenes.SIXTY.substring(0, 59));
    twelve.runScript();
    Checks.same("twelve steps", twelve.time(), 12);
    Checks.same("one", Scenes.typed("step").runScript(), 1);
    LiftGroup thirty = Scenes.typed("step 30;step 030;step 1;step 5");
    Checks.same("four", thirty.runScript(), 4);
    Checks.same("with numbers", thirty.time(), 66);
    LiftGroup order = Scenes.typed("stop 0;start 0;limit 1 100;limit 1 900");
    order.runScript();
    Checks.same("in order", order.capacity(1), 900);
    Checks.yes("in order", order.isInService(0));
  }

  private static void malformed(String script, int position) {
    Checks.refusedScript(script, ARGUMENT, () -> Scenes.typed(script));
    LiftGroup group = Scenes.typed(script);
    try {
      group.runScript();
      Checks.report(script + " has the required form");
    } catch (IllegalArgumentException e) {
      Checks.same("errorPosition of " + script, group.errorPosition(), position);
    }
    Checks.same("the buffer is empty after " + script, group.type('x'), 1);
    Checks.refused("no failed command", NONE, () -> Scenes.typed(script), g -> g.failedCommand());
  }

  private static void errorPositions() {
    malformed("", 0);
    malformed(" ", 0);
    malformed(";", 0);
    malformed("Step", 0);
    malformed("x", 0);
    malformed("s", 1);
    malformed("sx", 1);
    malformed("st", 2);
    malformed("stx", 2);
    malformed("stop", 4);
    malformed("stop ", 5);
    malformed("stop x", 5);
    malformed("stop 01", 6);
    malformed("stop 0 ", 6);
    malformed("stop 0;", 7);
    malformed("stop 0; stop 1", 7);
    malformed("stop  0", 5);
    malformed("sta 0", 3);
    malformed("star", 4);
    malformed("startx", 5);
    malformed("start 12", 7);
    malformed("step ", 5);
    malformed("step;", 5);
    malformed("step;;step", 5);
    malformed("steps", 4);
    malformed("step x", 5);
    malformed("step 1234", 8);
    malformed("step 12x", 7);
    malformed("step 123 ", 8);
    malformed("step 1;ste", 10);
    malformed("step 1;stepp", 11);
    malformed("call", 4);
    malformed("call 1", 6);
    malformed("call 12 3 100", 6);
    malformed("call 1 2", 8);
    malformed("call 1 23", 8);
    malformed("call 1 2 ", 9);
    malformed("call 1 2 x", 9);
    malformed("call 1 2 1000", 12);
    malformed("cell", 1);
    malformed("leave", 5);
    malformed("leave ", 6);
    malformed("leave 0000", 9);
    malformed("leave -1", 6);
    malformed("limit 0", 7);
    malformed("limit 0 ", 8);
    malformed("limit 00", 7);
    malformed("limit 0 1000", 11);
    malformed("lift", 2);
    malformed("hold 0", 6);
    malformed("hold 0 ", 7);
    malformed("hold 0 11", 8);
    malformed("hold 0 x", 7);
    malformed("hello", 1);
    malformed("step 3;hold 0 x", 14);
    malformed(Scenes.SIXTY, 60);
    malformed(Scenes.SIXTY.substring(0, 55) + "leave", 60);
    malformed("leave 1/", 7);
    malformed("leave :", 6);
  }

  private static void failing(String script, int command) {
    Checks.refusedScript(script, STATE, () -> Scenes.typed(script));
    LiftGroup group = Scenes.typed(script);
    try {
      group.runScript();
      Checks.report(script + " has no failed command");
    } catch (IllegalStateException e) {
      Checks.same("failedCommand of " + script, group.failedCommand(), command);
    }
    Checks.same("the buffer is empty after " + script, group.type('x'), 1);
    Checks.refused("no error position", NONE, () -> Scenes.typed(script), g -> g.errorPosition());
    try {
      group.undo();
      Checks.report("a failed script is no change: " + script);
    } catch (IllegalStateException e) {
      Checks.same("time", group.time(), 0);
    }
  }

  private static void failures() {
    failing("call 1 1 50", 0);
    failing("step;call 1 2 5", 1);
    failing("step;call 1 2 151", 1);
    failing("leave 0", 0);
    failing("call 1 2 50;leave 1", 1);
    failing("call 0 2 50;step;leave 0", 2);
    failing("hold 0 1", 0);
    failing("hold 3 1", 0);
    failing("call 0 2 50;step;hold 0 0", 2);
    failing("call 0 2 50;step;hold 0 4", 2);
    failing("stop 3", 0);
    failing("stop 1;stop 1", 1);
    failing("start 0", 0);
    failing("start 3", 0);
    failing("limit 3 400", 0);
    failing("limit 0 99", 0);
    failing("limit 0 901", 0);
    failing("call 0 2 150;step;limit 0 149", 2);
    failing("step 0", 0);
    failing("step 31", 0);
    failing("step;step 5;stop 0;step 999", 3);
    Checks.refusedScript("a thirteenth passenger", STATE, ScriptTest::eleven);
  }

  private static LiftGroup eleven() {
    LiftGroup group = Scenes.waiting(11);
    Checks.type(group, "call 1 2 10;call 1 2 10");
    return group;
  }

  private static void positionsStay() {
    LiftGroup group = new LiftGroup();
    group.save();
    Scenes.run(group, "stop x");
    Scenes.run(group, "step;step 0");
    Checks.same("errorPosition", group.errorPosition(), 5);
    Checks.same("failedCommand", group.failedCommand(), 1);
    Scenes.run(group, "step");
    Checks.same("a good script leaves it", group.errorPosition(), 5);
    Checks.same("a good script leaves it", group.failedCommand(), 1);
    Scenes.run(group, "stop 0;stopp");
    Checks.same("the latest one", group.errorPosition(), 11);
    Scenes.run(group, "stop 5");
    Checks.same("the latest one", group.failedCommand(), 0);
    group.type('s');
    group.undo();
    Checks.same("undo leaves it", group.errorPosition(), 11);
    Checks.same("undo leaves it", group.failedCommand(), 0);
    group.restore();
    Checks.same("restore leaves it", group.errorPosition(), 11);
    Checks.same("restore leaves it", group.failedCommand(), 0);
    Checks.same("both leave the buffer", group.type('t'), 2);
    Checks.refused("errorPosition", NONE, LiftGroup::new, g -> g.errorPosition());
    Checks.refused("failedCommand", NONE, LiftGroup::new, g -> g.failedCommand());
    Checks.same("the whole buffer is run", Scenes.run(group, "ep 4"), 1);
    Checks.same("the whole buffer is run", group.time(), 4);
  }
}

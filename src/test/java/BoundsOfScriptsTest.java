import java.util.NoSuchElementException;
import java.util.function.Supplier;

/** Promises 54 to 57 and the form of scripts, on both sides of every boundary that their sentences name. */
public final class BoundsOfScriptsTest {
  private static final Class<IllegalArgumentException> ARGUMENT = IllegalArgumentException.class;
  private static final Class<IllegalStateException> STATE = IllegalStateException.class;
  private static final Class<NoSuchElementException> NONE = NoSuchElementException.class;
  /** Eleven commands in sixty characters: 17 steps. */
  private static final String LONGEST = "step;step;step;step;step;step;step;step;step 2;step 3;step 4";

  private BoundsOfScriptsTest() {
  }

  public static void main(String[] args) {
    codes();
    buffer();
    fullBuffer();
    emptyAfterwards();
    counts();
    digits();
    errorPositionsInEveryForm();
    errorPositionsAtTheEnds();
    arguments();
    failedCommands();
    noTrace();
    formBeforeFailure();
    errorPosition();
    failedCommand();
    Checks.end();
  }

  private static LiftGroup typed(int count) {
    return Scenes.typed(Scenes.SIXTY.substring(0, count));
  }

  private static void codes() {
    LiftGroup group = new LiftGroup();
    for (int code = 32; code <= 126; code++) {
      Checks.same("code " + code, group.type((char) code), (code - 32) % 50 + 1);
      if ((code - 32) % 50 == 49) {
        Checks.same("emptied", Scenes.run(group, ""), -1);
      }
    }
    for (int code : new int[] {0, 10, 31, 127, 128, 160, 255, 256, 256 + 32, 256 + 126, 65535}) {
      Checks.refusedAlways("code " + code, ARGUMENT, g -> g.type((char) code));
      Checks.refused("code " + code + " at the last place", ARGUMENT, () -> typed(59), g -> g.type((char) code));
      Checks.refused("code " + code + " when full", ARGUMENT, () -> typed(60), g -> g.type((char) code));
    }
  }

  private static void buffer() {
    LiftGroup group = new LiftGroup();
    for (int length = 1; length <= 60; length++) {
      Checks.same("length", group.type('x'), length);
    }
    for (int code : new int[] {32, 's', 126}) {
      Checks.same("the sixtieth character", typed(59).type((char) code), 60);
      Checks.refused("the sixty-first", STATE, () -> typed(60), g -> g.type((char) code));
    }
  }

  private static void refuse(LiftGroup group, char character) {
    try {
      group.type(character);
      Checks.report("type " + (int) character + " is not refused");
    } catch (IllegalArgumentException | IllegalStateException e) {
      Checks.yes("no error position from typing", Checks.orNone(group, LiftGroup::errorPosition) == -1);
    }
  }

  private static void fullBuffer() {
    Checks.same("sixty characters", LONGEST.length(), 60);
    LiftGroup group = Scenes.typed(LONGEST);
    refuse(group, '0');
    refuse(group, (char) 31);
    Checks.same("what was typed before is run", group.runScript(), 11);
    Checks.same("and nothing else", group.time(), 17);
    Checks.same("all sixty places are free again", Scenes.run(group, LONGEST), 11);
    Checks.same("all sixty places are free again", group.time(), 34);
  }

  private static void emptyAfterwards() {
    for (String script : new String[] {"step", "x", "", "step 0", LONGEST, Scenes.SIXTY}) {
      LiftGroup group = new LiftGroup();
      Scenes.run(group, script);
      Checks.same("the buffer after " + script, Checks.bufferLength(group), 0);
    }
    LiftGroup group = new LiftGroup();
    Scenes.run(group, "st");
    Checks.same("a rest of a refused script is not kept", Scenes.run(group, "ep"), -1);
    Checks.same("errorPosition", group.errorPosition(), 0);
    Scenes.run(group, "stop 3");
    Checks.same("nor of a failed one", Scenes.run(group, ";step"), -1);
    Checks.same("errorPosition", group.errorPosition(), 0);
    Scenes.run(group, "step");
    Checks.same("nor of a good one", Scenes.run(group, ";step"), -1);
    Checks.same("errorPosition", group.errorPosition(), 0);
    Checks.same("only the good one has run", group.time(), 1);
  }

  private static void counts() {
    for (int commands = 1; commands <= 12; commands++) {
      LiftGroup group = typed(5 * commands - 1);
      Checks.same("commands", group.runScript(), commands);
      Checks.same("each has run", group.time(), commands);
      Checks.same("together they are one change", group.undo(), 0);
      Checks.same("undone together", group.time(), 0);
    }
    Checks.refusedScript("no command", ARGUMENT, LiftGroup::new);
    for (int commands = 1; commands <= 12; commands++) {
      int length = 5 * commands;
      Checks.refusedScript("a semicolon and no command", ARGUMENT, () -> typed(length));
      malformed(Scenes.SIXTY.substring(0, length), length);
    }
  }

  private static int timeAfter(String script) {
    LiftGroup group = new LiftGroup();
    Checks.same("commands of " + script, Scenes.run(group, script), 1);
    return group.time();
  }

  private static void digits() {
    Checks.same("no number", timeAfter("step"), 1);
    Checks.same("one digit", timeAfter("step 1"), 1);
    Checks.same("one digit", timeAfter("step 9"), 9);
    Checks.same("two digits", timeAfter("step 01"), 1);
    Checks.same("two digits", timeAfter("step 30"), 30);
    Checks.same("three digits", timeAfter("step 001"), 1);
    Checks.same("three digits", timeAfter("step 030"), 30);
    malformed("step ", 5);
    malformed("step 0030", 8);
    malformed("step /", 5);
    malformed("step :", 5);
    malformed("step 3/", 6);
    malformed("step 3:", 6);
    malformed("stop /", 5);
    malformed("stop :", 5);
    failing("step 999", 0);
    failing("step 000", 0);
    LiftGroup limits = new LiftGroup();
    Checks.same("three digits", Scenes.run(limits, "limit 0 900;limit 1 100;limit 2 109"), 3);
    Checks.same("each digit counts", limits.capacity(0), 900);
    Checks.same("each digit counts", limits.capacity(1), 100);
    Checks.same("each digit counts", limits.capacity(2), 109);
  }

  private static void malformed(String script, int position) {
    Checks.refusedScript(script, ARGUMENT, () -> Scenes.typed(script));
    Checks.refusedScript(script, ARGUMENT, () -> richTyped(script));
    LiftGroup group = new LiftGroup();
    Checks.same(script, Scenes.run(group, script), -1);
    Checks.same("errorPosition of " + script, group.errorPosition(), position);
    Checks.same("no failed command", Checks.orNone(group, LiftGroup::failedCommand), -1);
  }

  private static LiftGroup richTyped(String script) {
    LiftGroup group = Scenes.rich();
    group.runScript();
    Checks.type(group, script);
    return group;
  }

  /** Each whole command in its longest form, cut after each character, and spoilt at each character. */
  private static void errorPositionsInEveryForm() {
    String[] commands = {"call 1 2 123", "leave 123", "hold 1 2", "stop 1", "start 1", "limit 1 123", "step 123"};
    for (String command : commands) {
      for (int length = 0; length < command.length(); length++) {
        String cut = command.substring(0, length);
        for (String before : new String[] {"", "step;"}) {
          if (!isWhole(cut)) {
            malformed(before + cut, before.length() + length);
          }
          malformed(before + cut + "~", before.length() + length);
          malformed(before + cut + "~" + command.substring(length + 1), before.length() + length);
        }
      }
      malformed(command + " ", command.length());
      malformed(command + "0", command.length());
      malformed(command + ";", command.length() + 1);
      malformed(command + ";;", command.length() + 1);
      malformed(" " + command, 0);
      malformed(";" + command, 0);
      malformed(command.toUpperCase(java.util.Locale.ROOT), 0);
    }
  }

  private static boolean isWhole(String text) {
    return text.matches("call . . \\d{1,3}|leave \\d{1,3}|hold . .|stop .|start .|limit . \\d{1,3}|step( \\d{1,3})?");
  }

  private static void errorPositionsAtTheEnds() {
    malformed("", 0);
    malformed("~", 0);
    malformed(Scenes.SIXTY, 60);
    String almost = LONGEST.substring(0, 59);
    malformed(almost, 59);
    malformed(almost + "x", 59);
    malformed(LONGEST.substring(0, 58) + "x4", 58);
    String ten = Scenes.SIXTY.substring(0, 50);
    malformed(ten + "leave 0001", 59);
    malformed(ten + "call 1 2 x", 59);
    malformed(ten + "step;hold ", 60);
    malformed(ten + "step;leave", 60);
    malformed("~" + LONGEST.substring(1), 0);
    malformed(" ".repeat(60), 0);
    malformed(";".repeat(60), 0);
    malformed("0".repeat(60), 0);
  }

  /** Twelve passengers are there, one of them in car 0, whose doors are open; car 2 is out of service. */
  private static LiftGroup scene() {
    LiftGroup group = Scenes.boarded(150);
    group.stopCar(2);
    for (int i = 1; i < 12; i++) {
      group.addPassenger(1, 2, 10);
    }
    return group;
  }

  /** The script does what the calls do. */
  private static void works(String script, Checks.Call calls) {
    LiftGroup group = scene();
    Checks.same(script, Scenes.run(group, script), script.split(";").length);
    Checks.same("no failed command", Checks.orNone(group, LiftGroup::failedCommand), -1);
    LiftGroup called = scene();
    calls.on(called);
    Checks.same(script, Checks.portrait(group), Checks.portrait(called));
  }

  private static LiftGroup sceneTyped(String script) {
    LiftGroup group = scene();
    Checks.type(group, script);
    return group;
  }

  private static void fails(String script, int command) {
    failing(() -> sceneTyped(script), script, command);
  }

  /** Each argument of each command on both sides of its bounds. */
  private static void arguments() {
    argumentsOfCall();
    works("leave 1", g -> g.removePassenger(1));
    works("leave 11", g -> g.removePassenger(11));
    works("leave 011", g -> g.removePassenger(11));
    fails("leave 0", 0);
    fails("leave 12", 0);
    fails("leave 999", 0);
    fails("leave 11;leave 11", 1);
    works("hold 0 1", g -> g.holdDoors(0, 1));
    works("hold 0 3", g -> g.holdDoors(0, 3));
    fails("hold 0 0", 0);
    fails("hold 0 4", 0);
    fails("hold 0 9", 0);
    fails("hold 1 1", 0);
    fails("hold 3 1", 0);
    works("stop 0;stop 1;start 2", g -> {
      g.stopCar(0);
      g.stopCar(1);
      g.startCar(2);
    });
    works("stop 1", g -> g.stopCar(1));
    works("start 2", g -> g.startCar(2));
    fails("stop 2", 0);
    fails("stop 3", 0);
    fails("stop 9", 0);
    fails("start 0", 0);
    fails("start 3", 0);
    fails("start 9", 0);
    works("limit 0 150", g -> g.setCapacity(0, 150));
    works("limit 1 900", g -> g.setCapacity(1, 900));
    works("limit 2 100", g -> g.setCapacity(2, 100));
    fails("limit 0 149", 0);
    fails("limit 2 99", 0);
    fails("limit 2 901", 0);
    fails("limit 3 400", 0);
    works("step", g -> g.advance(1));
    works("step 1", g -> g.advance(1));
    works("step 30", g -> g.advance(30));
    fails("step 0", 0);
    fails("step 31", 0);
  }

  private static void argumentsOfCall() {
    int[][] arguments = {{0, 9, 10}, {9, 0, 150}, {0, 1, 11}, {8, 9, 149}};
    for (int[] n : arguments) {
      String call = "call " + n[0] + " " + n[1] + " " + n[2];
      works("leave 11;" + call, g -> {
        g.removePassenger(11);
        g.addPassenger(n[0], n[1], n[2]);
      });
      fails(call, 0);
      fails("leave 11;" + call + ";" + call, 2);
    }
    for (String bad : new String[] {"0 0 10", "9 9 150", "0 9 9", "0 9 151", "0 9 0", "0 9 999"}) {
      fails("leave 11;call " + bad, 1);
    }
  }

  private static void failing(String script, int command) {
    Checks.refusedScript(script, STATE, () -> richTyped(script));
    failing(() -> Scenes.typed(script), script, command);
  }

  private static void failing(Supplier<LiftGroup> build, String script, int command) {
    Checks.refusedScript(script, STATE, build);
    LiftGroup group = build.get();
    Checks.same(script, Scenes.run(group, ""), -2);
    Checks.same("failedCommand of " + script, group.failedCommand(), command);
    Checks.same("no error position", Checks.orNone(group, LiftGroup::errorPosition), -1);
  }

  private static void failedCommands() {
    for (int before = 0; before <= 10; before++) {
      failing(Scenes.SIXTY.substring(0, 5 * before) + "step 0", before);
    }
    failing("step 0;step 0;step 0", 0);
    failing("step;step 0;step", 1);
    failing("stop 0;start 0;stop 0;start 0;stop 0;start 0;stop 0;stop 0", 7);
  }

  /** What the commands before the failed one did is taken back, also in the log and in the numbers. */
  private static void noTrace() {
    LiftGroup group = new LiftGroup();
    group.addPassenger(0, 1, 10);
    Checks.same("fails", Scenes.run(group, "call 2 3 50;step 30;stop 0;limit 1 900;stop 0"), -2);
    Checks.same("failedCommand", group.failedCommand(), 4);
    Checks.same("tripCount", group.tripCount(), 0);
    Checks.same("time", group.time(), 0);
    Checks.same("passengerCount", group.passengerCount(), 1);
    Checks.yes("in service", group.isInService(0));
    Checks.same("capacity", group.capacity(1), 400);
    Checks.same("the next number", group.number(group.addPassenger(4, 5, 60)), 2);
    Checks.same("a script that fails is no change", group.undo(), 1);
  }

  private static void formBeforeFailure() {
    for (String script : new String[] {"step 0;x", "stop 3;stop", "step 31;step;", "leave 0;leave"}) {
      Checks.refusedScript(script, ARGUMENT, () -> Scenes.typed(script));
      LiftGroup group = new LiftGroup();
      Checks.same("the form comes first: " + script, Scenes.run(group, script), -1);
      Checks.same("no failed command", Checks.orNone(group, LiftGroup::failedCommand), -1);
    }
  }

  private static void errorPosition() {
    Checks.refused("errorPosition", NONE, LiftGroup::new, g -> g.errorPosition());
    Checks.refused("errorPosition after a good script", NONE, () -> after("step"), g -> g.errorPosition());
    Checks.refused("errorPosition after a failed one", NONE, () -> after("step 0"), g -> g.errorPosition());
    LiftGroup group = after("");
    Checks.same("the smallest", group.errorPosition(), 0);
    Scenes.run(group, Scenes.SIXTY);
    Checks.same("the largest", group.errorPosition(), 60);
    Scenes.run(group, "step");
    Checks.same("a good script leaves it", group.errorPosition(), 60);
    Scenes.run(group, "step 0");
    Checks.same("a failed script leaves it", group.errorPosition(), 60);
    Scenes.run(group, "");
    Checks.same("the latest one", group.errorPosition(), 0);
  }

  private static LiftGroup after(String script) {
    LiftGroup group = new LiftGroup();
    Scenes.run(group, script);
    return group;
  }

  private static void failedCommand() {
    Checks.refused("failedCommand", NONE, LiftGroup::new, g -> g.failedCommand());
    Checks.refused("failedCommand after a good script", NONE, () -> after("step"), g -> g.failedCommand());
    Checks.refused("failedCommand after no script", NONE, () -> after("step;"), g -> g.failedCommand());
    LiftGroup group = after("step 0");
    Checks.same("the first", group.failedCommand(), 0);
    Scenes.run(group, "step;".repeat(10) + "step 0");
    Checks.same("the eleventh", group.failedCommand(), 10);
    Scenes.run(group, "step");
    Checks.same("a good script leaves it", group.failedCommand(), 10);
    Scenes.run(group, "x");
    Checks.same("one without the form leaves it", group.failedCommand(), 10);
    Scenes.run(group, "step 0;step 0");
    Checks.same("the latest one", group.failedCommand(), 0);
  }
}

import java.io.File;
import java.io.IOException;
import java.nio.file.Files;
import java.nio.file.Path;
import java.util.ArrayList;
import java.util.Comparator;
import java.util.List;
import java.util.Set;
import java.util.TreeSet;
import java.util.regex.Matcher;
import java.util.regex.Pattern;
import java.util.stream.Stream;

/** What README.md says is tried as it stands there: in a copy of the project, with its commands. */
public final class ReadmeTest {
  private static final Path EXAMPLE = Path.of("src/example/java/Example.java");

  private ReadmeTest() {
  }

  public static void main(String[] args) throws IOException, InterruptedException {
    String readme = Files.readString(Path.of("README.md"));
    List<String> programs = blocks(readme, "java");
    List<String> commands = blocks(readme, "sh");
    Checks.same("programs", programs.size(), 1);
    Checks.same("commands", commands.size(), 3);
    Checks.same("the program", programs.get(0), Files.readString(EXAMPLE));
    Checks.same("all tests", commands.get(1), ".ci/run\n");
    Checks.yes("which can be run", Files.isExecutable(Path.of(".ci/run")));
    testsInTable(readme);
    exceptionsInTable(readme);
    Path room = Files.createTempDirectory("readme");
    try {
      copy(Path.of("."), room.resolve("project"));
      copy(Path.of("../shared"), room.resolve("shared"));
      File project = room.resolve("project").toFile();
      Checks.same("what the example prints", run(commands.get(0), project), answersIn(programs.get(0)));
      String tests = run(commands.get(2), project);
      Checks.yes("what the tests print: " + tests,
          tests.matches("all \\d+ answers are as due\nall answers are as due\n"));
    } finally {
      remove(room);
    }
    Checks.end();
  }

  private static List<String> blocks(String readme, String language) {
    List<String> blocks = new ArrayList<>();
    Matcher m = Pattern.compile("(?ms)^```" + language + "\\n(.*?)^```$").matcher(readme);
    while (m.find()) {
      blocks.add(m.group(1));
    }
    return blocks;
  }

  /** Each comment behind println begins with the answer. */
  private static String answersIn(String program) {
    StringBuilder lines = new StringBuilder();
    for (String line : program.split("\n")) {
      Matcher m = Pattern.compile("println\\(.*\\); +// ([^:]+): .+").matcher(line);
      if (m.find()) {
        lines.append(m.group(1)).append('\n');
      } else {
        Checks.yes("an answer behind " + line.trim(), !line.contains("println("));
      }
    }
    return lines.toString();
  }

  private static void testsInTable(String readme) throws IOException {
    Set<String> told = new TreeSet<>();
    Matcher rows = Pattern.compile("(?m)^\\| `(\\w+Test)` \\|").matcher(readme);
    while (rows.find()) {
      Checks.yes("one row for " + rows.group(1), told.add(rows.group(1)));
    }
    Set<String> there = new TreeSet<>();
    try (Stream<Path> files = Files.list(Path.of("src/test/java"))) {
      files.map(file -> file.getFileName().toString()).filter(name -> name.endsWith("Test.java"))
          .forEach(name -> there.add(name.replace(".java", "")));
    }
    Checks.same("the tests in the table", told.toString(), there.toString());
  }

  private static void exceptionsInTable(String readme) throws IOException {
    Set<String> told = new TreeSet<>();
    Matcher rows = Pattern.compile("(?m)^\\| `(\\w+Exception)` \\|").matcher(readme);
    while (rows.find()) {
      told.add(rows.group(1));
    }
    Set<String> due = new TreeSet<>();
    Matcher promised = Pattern.compile("(?m)^Throws `(\\w+)`").matcher(Files.readString(Path.of("../shared/DOC.md")));
    while (promised.find()) {
      due.add(promised.group(1));
    }
    Checks.same("the exceptions in the table", told.toString(), due.toString());
  }

  private static String run(String commands, File directory) throws IOException, InterruptedException {
    Process process = new ProcessBuilder("sh", "-e", "-c", commands).directory(directory)
        .redirectErrorStream(true).start();
    process.getOutputStream().close();
    String printed = new String(process.getInputStream().readAllBytes());
    Checks.same("exit code of " + commands, process.waitFor(), 0);
    return printed;
  }

  private static void copy(Path from, Path to) throws IOException {
    List<Path> files;
    try (Stream<Path> found = Files.walk(from)) {
      files = found.filter(Files::isRegularFile).filter(file -> !from.relativize(file).startsWith(".git")
          && !from.relativize(file).startsWith("build")).toList();
    }
    for (Path file : files) {
      Path copied = to.resolve(from.relativize(file).toString());
      Files.createDirectories(copied.getParent());
      Files.write(copied, Files.readAllBytes(file));
    }
  }

  private static void remove(Path room) throws IOException {
    List<Path> paths;
    try (Stream<Path> found = Files.walk(room)) {
      paths = found.sorted(Comparator.reverseOrder()).toList();
    }
    for (Path path : paths) {
      Files.delete(path);
    }
  }
}

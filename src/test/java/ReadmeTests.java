import java.io.IOException;
import java.lang.reflect.Method;
import java.lang.reflect.Modifier;
import java.nio.file.Files;
import java.nio.file.Path;
import java.util.ArrayList;
import java.util.List;
import java.util.regex.Matcher;
import java.util.regex.Pattern;
import java.util.stream.Stream;

/** What README.md says of use and of tests, done as it stands there; run from the project's root, as .ci/run does. */
public final class ReadmeTests {
  private static final String RUN_ALL = ".ci/run";
  private static final Path ROOT = Path.of("").toAbsolutePath();

  private static int wrong = 0;

  private static void holds(boolean it, String what) {
    if (!it) {
      wrong++;
      System.out.println("README.md: does not hold: " + what);
    }
  }

  private static List<String> blocks(String text, String language) {
    List<String> found = new ArrayList<>();
    Matcher block = Pattern.compile("```" + language + "\n(.*?)```", Pattern.DOTALL).matcher(text);
    while (block.find()) {
      found.add(block.group(1).strip());
    }
    return found;
  }

  /** Behind each line that prints stands what it prints, up to a colon. */
  private static List<String> duePrints(String program) {
    List<String> due = new ArrayList<>();
    Matcher line = Pattern.compile("System\\.out\\.println\\(.*; +// ([^:\n]*):").matcher(program);
    while (line.find()) {
      due.add(line.group(1));
    }
    return due;
  }

  /** The lines that the commands print, and behind them the exit code. */
  private static List<String> outcome(String commands, Path place) throws IOException, InterruptedException {
    Process shell = new ProcessBuilder("sh", "-e", "-c", commands).directory(place.toFile())
        .redirectError(ProcessBuilder.Redirect.INHERIT).start();
    shell.getOutputStream().close();
    String printed = new String(shell.getInputStream().readAllBytes());
    List<String> lines = new ArrayList<>(printed.lines().toList());
    lines.add("exit " + shell.waitFor());
    return lines;
  }

  private static void copy(String part, Path place) throws IOException {
    try (Stream<Path> files = Files.walk(ROOT.resolve(part))) {
      for (Path file : files.filter(Files::isRegularFile).toList()) {
        Path target = place.resolve(ROOT.relativize(file).toString());
        Files.createDirectories(target.getParent());
        Files.copy(file, target);
      }
    }
  }

  private static void remove(Path place) throws IOException {
    try (Stream<Path> files = Files.walk(place)) {
      List<Path> innerFirst = new ArrayList<>(files.toList());
      innerFirst.sort((a, b) -> b.compareTo(a));
      for (Path file : innerFirst) {
        Files.delete(file);
      }
    }
  }

  private static void programAndCommands(String text, Path place) throws IOException, InterruptedException {
    copy("src", place);
    List<String> programs = blocks(text, "java");
    holds(programs.size() == 1, "there is one program");
    String program = programs.isEmpty() ? "" : programs.get(0);
    Files.writeString(place.resolve("Example.java"), program);
    List<String> due = duePrints(program);
    int prints = program.split("System\\.out\\.println", -1).length - 1;
    holds(prints > 0 && due.size() == prints, "behind each line that prints stands what it prints");
    int runs = 0;
    for (String commands : blocks(text, "sh")) {
      if (commands.equals(RUN_ALL)) {
        continue;
      }
      List<String> got = outcome(commands, place);
      holds(got.get(got.size() - 1).equals("exit 0"), commands + " gives " + got);
      if (commands.contains("Example")) {
        runs++;
        got.remove(got.size() - 1);
        holds(got.equals(due), "the program prints " + due + ", but it printed " + got);
      }
    }
    holds(runs == 1, "the program's commands stand there once");
    holds(blocks(text, "sh").contains(RUN_ALL), "all tests are run with " + RUN_ALL);
    holds(Files.isExecutable(ROOT.resolve(RUN_ALL)), RUN_ALL + " can be run");
  }

  private static void everyCallIsNamed(String text) {
    for (Method method : HackHouse.class.getDeclaredMethods()) {
      if (Modifier.isPublic(method.getModifiers())) {
        holds(text.contains("`" + method.getName() + "("), method.getName() + " is told of");
      }
    }
  }

  private static void everyTestIsNamed(String text) throws IOException {
    try (Stream<Path> files = Files.list(ROOT.resolve("src/test/java"))) {
      for (Path file : files.toList()) {
        holds(text.contains("`src/test/java/" + file.getFileName() + "`"), file.getFileName() + " is told of");
      }
    }
  }

  private static void everyFileIsThere(String text) {
    Matcher named = Pattern.compile("`((?:src|\\.ci|\\.\\./shared)[^` ]*)`").matcher(text);
    while (named.find()) {
      holds(Files.exists(ROOT.resolve(named.group(1))), named.group(1) + " is there");
    }
  }

  public static void main(String[] args) throws IOException, InterruptedException {
    String text = Files.readString(ROOT.resolve("README.md"));
    Path place = Files.createTempDirectory("readme");
    try {
      programAndCommands(text, place);
    } finally {
      remove(place);
    }
    everyCallIsNamed(text);
    everyTestIsNamed(text);
    everyFileIsThere(text);
    System.out.println(wrong == 0 ? "README.md holds" : wrong + " things do not hold");
    if (wrong != 0) {
      System.exit(1);
    }
  }
}

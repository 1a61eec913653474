import java.io.PrintStream;
import java.lang.reflect.Method;
import java.lang.reflect.Modifier;
import java.net.URL;
import java.net.URLClassLoader;
import java.nio.file.Files;
import java.nio.file.Path;
import java.util.HashSet;
import java.util.Set;
import java.util.regex.Matcher;
import java.util.regex.Pattern;
import java.util.stream.Stream;
import javax.tools.JavaCompiler;
import javax.tools.ToolProvider;

/** That README.md is true: its program compiles and answers as it says, and it names all that there is. */
public final class ReadmeTest {
  private static final Pattern ANSWERED = Pattern.compile("(?m)^ *(x\\.\\w+\\(.*\\)); +// (-?\\d+)(:.*)?$");
  private static int wrong = 0;
  private static int asked = 0;
  private static int answered = 0;

  public static void main(String[] args) throws Exception {
    String page = Files.readString(Path.of("README.md"));
    program(page);
    answersBelow(page);
    calls(page);
    tests(page);
    classes(page);
    System.out.println("ReadmeTest: " + asked + " looked at, " + wrong + " not so");
    if (wrong != 0) System.exit(1);
  }

  private static void check(boolean good, String what) {
    asked++;
    if (!good) {
      wrong++;
      System.out.println("README.md: not so: " + what);
    }
  }

  /** Called by the program, in place of its comments. */
  public static void due(String call, long got, long want) {
    answered++;
    check(got == want, call + " answered " + got + ", " + want + " is written");
  }

  private static String block(String page, String kind) {
    Matcher m = Pattern.compile("(?s)```" + kind + "\n(.*?)```").matcher(page);
    return m.find() ? m.group(1) : "";
  }

  private static void program(String page) throws Exception {
    String code = block(page, "java");
    String text = block(page, "text");
    check(!code.isEmpty() && !text.isEmpty(), "there are a program and a cloth");
    int written = (int) ANSWERED.matcher(code).results().count();
    check(code.lines().filter(l -> l.contains("//") && l.contains("x.")).count() == written, "each answer is a number");
    check(written > 50, "there are answers");
    // the cloth of the page is the one of the program
    Matcher told = Pattern.compile("(?s)tell\\(x, (\".*?\")\\);").matcher(code);
    String first = told.find() ? told.group(1).replaceAll("\"\\s*\\+\\s*\"|\"", "") : "";
    check(first.replaceAll("\\s", "").equals(text.replaceAll("\\s", "")), "the cloth is the program's");
    run(ANSWERED.matcher(code).replaceAll("ReadmeTest.due(\"$1\", $1, $2L);"));
    check(answered == written, "all of the program was run");
  }

  private static void run(String code) throws Exception {
    Path dir = Files.createTempDirectory("readme");
    Path file = dir.resolve("Example.java");
    Files.writeString(file, code);
    JavaCompiler javac = ToolProvider.getSystemJavaCompiler();
    String with = System.getProperty("java.class.path");
    boolean compiled = javac != null
        && javac.run(null, null, new PrintStream(System.out), "-cp", with, "-d", dir.toString(), file.toString()) == 0;
    check(compiled, "the program compiles");
    if (compiled) {
      try (URLClassLoader loader = new URLClassLoader(new URL[] {dir.toUri().toURL()}, ReadmeTest.class.getClassLoader())) {
        loader.loadClass("Example").getMethod("main", String[].class).invoke(null, (Object) new String[0]);
      }
    }
    try (Stream<Path> all = Files.list(dir)) {
      for (Path p : all.toList()) Files.delete(p);
    }
    Files.delete(dir);
  }

  /** Each answer of the document that tells of something wrong stands in the table, and in the program. */
  private static void answersBelow(String page) {
    Set<String> shown = new HashSet<>();
    ANSWERED.matcher(block(page, "java")).results().forEach(r -> shown.add(r.group(2)));
    for (String answer : new String[] {"-1", "-2", "-3", "-4", "-5", "-6", "-7", "-8", "-1000", "-100000"}) {
      check(Pattern.compile("(?m)^\\| " + answer + "(, `NONE`)? \\|").matcher(page).find(), answer + " is in the table");
      check(shown.contains(answer), answer + " is in the program");
    }
  }

  private static void calls(String page) {
    int start = page.indexOf("## All calls");
    String table = start < 0 ? "" : page.substring(start, page.indexOf("\n- ", start));
    Set<String> named = new HashSet<>();
    Pattern.compile("`(\\w+)`").matcher(table).results().forEach(r -> check(named.add(r.group(1)), r.group(1) + " once"));
    Set<String> there = new HashSet<>();
    for (Method m : ArgumentMender.class.getDeclaredMethods()) {
      if (Modifier.isPublic(m.getModifiers())) there.add(m.getName());
    }
    check(named.equals(there), "all calls are named, and no other: " + named + " / " + there);
  }

  private static void tests(String page) throws Exception {
    Set<String> named = new HashSet<>();
    Pattern.compile("`(\\w+Test)`").matcher(page).results().forEach(r -> named.add(r.group(1)));
    Set<String> there = new HashSet<>();
    try (Stream<Path> all = Files.list(Path.of("src/test/java"))) {
      all.map(p -> p.getFileName().toString()).filter(n -> n.endsWith("Test.java"))
          .forEach(n -> there.add(n.substring(0, n.length() - 5)));
    }
    check(named.equals(there), "all tests are named, and no other: " + named + " / " + there);
    check(page.contains("\n    .ci/run\n") && Files.isExecutable(Path.of(".ci/run")), "the command is there");
  }

  private static void classes(String page) {
    for (Class<?> c : ArgumentMender.class.getDeclaredClasses()) {
      check(page.contains("`" + c.getSimpleName() + "`"), c.getSimpleName() + " is named");
    }
  }
}

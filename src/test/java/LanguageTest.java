import java.lang.reflect.Constructor;
import java.lang.reflect.Field;
import java.lang.reflect.Method;
import java.lang.reflect.Modifier;
import java.nio.file.Files;
import java.nio.file.Path;
import java.util.ArrayList;
import java.util.HashSet;
import java.util.List;
import java.util.Set;
import java.util.regex.Matcher;
import java.util.regex.Pattern;

/** What can be seen of ../shared/LANGUAGE.md and the document's face from outside. Run from the project's root. */
public final class LanguageTest {
  private static int wrong = 0;

  public static void main(String[] args) throws Exception {
    String source = Files.readString(Path.of("src/main/java/ArgumentMender.java"));
    String code = source.replaceAll("(?s)/\\*.*?\\*/", "").replaceAll("//[^\\n]*", "");
    face();
    members();
    words(code);
    methods(code);
    System.out.println("LanguageTest: " + (wrong == 0 ? "all rules kept that it looks at" : wrong + " broken"));
    if (wrong != 0) System.exit(1);
  }

  private static void check(boolean good, String what) {
    if (!good) {
      wrong++;
      System.out.println("not so: " + what);
    }
  }

  /** The methods of the document, each as it stands there. */
  private static void face() throws Exception {
    Path doc = Path.of("../shared/DOC.md");
    if (!Files.exists(doc)) return;
    String text = Files.readString(doc);
    Matcher m = Pattern.compile("    public (int|long) (\\w+)\\((.*?)\\);").matcher(text);
    Set<String> due = new HashSet<>();
    while (m.find()) due.add(m.group(1) + " " + m.group(2) + "(" + m.group(3).replaceAll("(int|long) \\w+", "$1") + ")");
    Set<String> got = new HashSet<>();
    for (Method x : ArgumentMender.class.getDeclaredMethods()) {
      if (!Modifier.isPublic(x.getModifiers())) continue;
      List<String> types = new ArrayList<>();
      for (Class<?> c : x.getParameterTypes()) types.add(c.getName());
      got.add(x.getReturnType().getName() + " " + x.getName() + "(" + String.join(", ", types) + ")");
    }
    check(due.size() == 73, "73 methods in the document, not " + due.size());
    check(due.equals(got), "the face is the document's: " + due + " / " + got);
  }

  private static void members() {
    Class<?> c = ArgumentMender.class;
    check(Modifier.isPublic(c.getModifiers()) && Modifier.isFinal(c.getModifiers()), "public and final");
    Set<String> open = new HashSet<>();
    for (Method m : c.getDeclaredMethods()) if (Modifier.isPublic(m.getModifiers())) open.add(m.getName());
    for (Method m : c.getDeclaredMethods()) {
      check(Modifier.isPublic(m.getModifiers()) || Modifier.isPrivate(m.getModifiers()), m + " is private");
      check(Modifier.isPublic(m.getModifiers()) || !open.contains(m.getName()), m + " has a name of its own");
    }
    for (Field f : c.getDeclaredFields()) {
      check(f.getName().equals("NONE") || Modifier.isPrivate(f.getModifiers()), f + " is private");
    }
    Constructor<?>[] made = c.getDeclaredConstructors();
    check(made.length == 1 && Modifier.isPublic(made[0].getModifiers()), "one public constructor");
    check(c.getDeclaredClasses().length <= 11, "some twelve classes");
    for (Class<?> in : c.getDeclaredClasses()) {
      check(Modifier.isStatic(in.getModifiers()), in + " is static");
      int fields = 0;
      for (Field f : in.getDeclaredFields()) if (!Modifier.isStatic(f.getModifiers())) fields++;
      check(fields <= 20, in + " has some twenty fields");
      for (Method m : in.getDeclaredMethods()) {
        check(!open.contains(m.getName()), m + " has a name of its own");
        check(m.getParameterCount() <= 7, m + " has seven parameters at most");
      }
    }
  }

  private static void words(String code) {
    String[] banned = {"throw", "try", "catch", "synchronized", "assert", "package", "protected", "double", "float",
        "Object", "System\\.(?!arraycopy)", "Exact", "->", "::", "while \\(true", "for \\(;;", "hashCode", "toString",
        "String\\.format", "instanceof", "import (?!java\\.util\\.Arrays;)"};
    for (String b : banned) {
      String whole = Character.isLetter(b.charAt(0)) ? "\\b" + b : b;
      if (b.matches("\\w+")) whole += "\\b";
      check(!Pattern.compile(whole).matcher(code).find(), "no " + b);
    }
    // objects are made with the object alone, never by a call
    Matcher m = Pattern.compile("(?m)^.*\\bnew\\b.*$").matcher(code);
    while (m.find()) {
      String line = m.group().trim();
      check(line.contains("final ") || line.matches("(slots|images)\\[i\\] = new \\w+\\(\\);"), "made in a call: " + line);
    }
  }

  private static void methods(String code) {
    String[] lines = code.split("\n");
    int start = -1;
    for (int i = 0; i < lines.length; i++) {
      if (lines[i].matches("\\s+(public |private |static |final )*\\w+(\\[\\])* ?\\w*\\(.*\\) \\{")
          && !lines[i].matches("\\s+(if|for|while|switch|else).*")) start = i;
      if (start >= 0 && lines[i].equals(lines[start].replaceAll("\\S.*", "") + "}")) {
        check(i - start <= 60, "some sixty lines: " + lines[start].trim());
        start = -1;
      }
    }
  }
}

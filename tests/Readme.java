import java.io.IOException;
import java.lang.reflect.InvocationTargetException;
import java.lang.reflect.Method;
import java.lang.reflect.Modifier;
import java.nio.charset.StandardCharsets;
import java.nio.file.Files;
import java.nio.file.Path;
import java.util.ArrayList;
import java.util.List;
import java.util.Set;
import java.util.TreeMap;
import java.util.TreeSet;
import java.util.regex.Matcher;
import java.util.regex.Pattern;

/** Runs the calls that README.md tells, so that what it says of the class stays true. */
public final class Readme {
  private static final Path PAGE = Path.of("README.md");
  private static final String NEW_OBJECT = "DroverPlan plan = new DroverPlan();";
  private static final Pattern CALL =
      Pattern.compile("plan\\.(\\w+)\\(([^)]*)\\);\\s+// ([^:]+)(: .+)?");
  private static final Pattern NAME = Pattern.compile("`(\\w+)`");
  private static final Pattern EXCEPTION = Pattern.compile("\\w+Exception");

  private static final TreeMap<String, Method> face = new TreeMap<>();
  private static final Set<String> shown = new TreeSet<>();
  private static final TreeMap<String, List<String>> thrown = new TreeMap<>();
  private static DroverPlan plan = null;
  private static int wrong = 0;

  public static void main(String[] args) throws IOException, IllegalAccessException {
    for (Method m : DroverPlan.class.getDeclaredMethods()) {
      if (Modifier.isPublic(m.getModifiers())) {
        face.put(m.getName(), m);
      }
    }
    List<String> page = Files.readAllLines(PAGE, StandardCharsets.UTF_8);
    for (String line : page) {
      if (line.equals(NEW_OBJECT)) {
        plan = new DroverPlan();
      } else if (line.startsWith("plan.")) {
        runCall(line);
      } else if (line.startsWith("| `")) {
        readRow(line);
      }
    }
    checkShown();
    checkThrown();
    checkTestsAreNamed(String.join("\n", page));
    System.out.println(wrong == 0 ? "the page tells what is" : wrong + " faults");
    System.exit(wrong == 0 ? 0 : 1);
  }

  private static void need(boolean holds, String what) {
    if (!holds) {
      wrong++;
      System.out.println("wrong: " + what);
    }
  }

  private static void runCall(String line) throws IllegalAccessException {
    Matcher told = CALL.matcher(line);
    boolean isCall = told.matches() && face.containsKey(told.group(1));
    need(isCall, "no call with an answer: " + line);
    if (!isCall) {
      return;
    }
    shown.add(told.group(1));
    String got = answerOf(face.get(told.group(1)), told.group(2));
    need(got.equals(told.group(3)), line + " (answered " + got + ")");
  }

  private static String answerOf(Method call, String told) throws IllegalAccessException {
    String[] words = told.isEmpty() ? new String[0] : told.split(", ");
    Object[] inputs = new Object[words.length];
    for (int n = 0; n < words.length; n++) {
      boolean isTruth = words[n].equals("true") || words[n].equals("false");
      inputs[n] = isTruth ? (Object) Boolean.valueOf(words[n]) : (Object) Integer.valueOf(words[n]);
    }
    try {
      return String.valueOf(call.invoke(plan, inputs));
    } catch (InvocationTargetException e) {
      return "throws " + e.getCause().getClass().getSimpleName();
    }
  }

  private static void readRow(String line) {
    String[] cells = line.split("\\|");
    List<String> exceptions = new ArrayList<>();
    Matcher told = EXCEPTION.matcher(cells[2]);
    while (told.find()) {
      exceptions.add(told.group());
    }
    Matcher name = NAME.matcher(cells[1]);
    while (name.find()) {
      need(thrown.put(name.group(1), exceptions) == null, "two rows tell of " + name.group(1));
    }
  }

  private static void checkShown() {
    need(shown.equals(face.keySet()), "calls that are shown: " + shown);
  }

  private static void checkThrown() {
    need(thrown.keySet().equals(face.keySet()), "calls in the table: " + thrown.keySet());
    for (Method m : face.values()) {
      List<String> declared = new ArrayList<>();
      for (Class<?> e : m.getExceptionTypes()) {
        declared.add(e.getSimpleName());
      }
      need(declared.equals(thrown.get(m.getName())), m.getName() + " throws " + declared);
    }
  }

  private static void checkTestsAreNamed(String page) throws IOException {
    try (var files = Files.newDirectoryStream(Path.of("tests"), "*.java")) {
      for (Path file : files) {
        String name = file.getFileName().toString().replace(".java", "");
        need(page.contains("tests/" + name + ".java") || page.contains("`" + name + "`"),
            "no word of the test " + name);
      }
    }
  }
}

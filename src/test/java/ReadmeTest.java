import java.lang.reflect.Field;
import java.lang.reflect.Method;
import java.lang.reflect.Modifier;
import java.nio.charset.StandardCharsets;
import java.nio.file.Files;
import java.nio.file.Path;
import java.util.ArrayList;
import java.util.List;
import java.util.TreeSet;
import java.util.regex.Matcher;
import java.util.regex.Pattern;
import java.util.stream.Stream;

/** What README.md says holds of the program as it stands. */
public final class ReadmeTest {
  private static final Due due = new Due("ReadmeTest");
  private static final Pattern TOLD = Pattern.compile("for \\(char c : \"(.*)\"\\.toCharArray\\(\\)\\) x\\.type\\(c\\);");
  private static final Pattern ASKED = Pattern.compile("x\\.(\\w+)\\(([-\\d, ]*)\\); *// (-?\\d+)(:.*)?");

  public static void main(String[] args) throws Exception {
    String page = Files.readString(root().resolve("README.md"), StandardCharsets.UTF_8);
    sample(page);
    constants(page);
    tests(page);
    commands(page);
    due.end();
  }

  private static Path root() {
    Path source = Path.of(System.getProperty("windpost.source", "src/main/java/WindPost.java"));
    return source.toAbsolutePath().normalize().getParent().resolve("../../..").normalize();
  }

  /** Each line of Java is asked as it stands, and there is one for each call of the face. */
  private static void sample(String page) throws Exception {
    TreeSet<String> asked = new TreeSet<>();
    WindPost x = null;
    int calls = 0;
    for (String line : blocks(page, "java")) {
      Matcher told = TOLD.matcher(line);
      Matcher call = ASKED.matcher(line);
      if (line.equals("WindPost x = new WindPost();")) {
        x = new WindPost();
      } else if (told.matches()) {
        Due.type(x, told.group(1));
        calls += told.group(1).length();
      } else if (call.matches()) {
        due.is("README.md: " + line, ask(x, call.group(1), call.group(2)), Long.parseLong(call.group(3)));
        asked.add(call.group(1));
        calls++;
      } else if (!line.isEmpty()) {
        due.alike("a line that is not tried", line, "");
      }
    }
    TreeSet<String> face = new TreeSet<>();
    for (Method m : WindPost.class.getDeclaredMethods()) if (Modifier.isPublic(m.getModifiers())) face.add(m.getName());
    due.alike("the calls that are told", asked.toString(), face.toString());
    due.is("one object is enough for all of it", calls <= 512 ? 1 : 0, 1);
  }

  private static long ask(WindPost x, String name, String told) throws Exception {
    String[] numbers = told.isBlank() ? new String[0] : told.split(", *");
    Object[] args = new Object[numbers.length];
    Class<?>[] kinds = new Class<?>[numbers.length];
    for (int i = 0; i < numbers.length; i++) {
      args[i] = Integer.valueOf(numbers[i]);
      kinds[i] = int.class;
    }
    return ((Number) WindPost.class.getMethod(name, kinds).invoke(x, args)).longValue();
  }

  /** Each constant is told with its number. */
  private static void constants(String page) throws Exception {
    for (Field f : WindPost.class.getFields()) {
      Matcher m = Pattern.compile("`" + f.getName() + "`\\W*?(-\\d+)").matcher(page);
      due.is(f.getName(), m.find() ? Integer.parseInt(m.group(1)) : 0, f.getInt(null));
    }
  }

  /** The table of tests has all that .ci/run runs, and no other. */
  private static void tests(String page) throws Exception {
    TreeSet<String> named = new TreeSet<>();
    Matcher m = Pattern.compile("(?m)^\\| `(\\w+Test)` \\|").matcher(page);
    while (m.find()) named.add(m.group(1));
    TreeSet<String> there = new TreeSet<>();
    try (Stream<Path> files = Files.list(root().resolve("src/test/java"))) {
      files.map(file -> file.getFileName().toString()).filter(name -> name.endsWith("Test.java"))
          .forEach(name -> there.add(name.substring(0, name.length() - ".java".length())));
    }
    due.alike("the tests that are named", named.toString(), there.toString());
  }

  /** What is to be typed names files and tests that there are. */
  private static void commands(String page) {
    due.is(".ci/run can be run", Files.isExecutable(root().resolve(".ci/run")) ? 1 : 0, 1);
    List<String> lines = blocks(page, "");
    due.alike("the first command", lines.get(0), ".ci/run");
    for (String line : lines) {
      for (String word : line.split(" ")) {
        boolean isTest = word.endsWith("Test");
        if (!isTest && !word.startsWith("src/")) continue;
        Path file = isTest ? Path.of("src/test/java", word + ".java") : Path.of(word.replace("/*.java", ""));
        due.is(line + ": " + file, Files.exists(root().resolve(file)) ? 1 : 0, 1);
      }
    }
  }

  /** The lines of the page's blocks of that kind. */
  private static List<String> blocks(String page, String kind) {
    List<String> lines = new ArrayList<>();
    String open = null;
    for (String line : page.split("\n")) {
      if (line.startsWith("```")) open = open == null ? line.substring(3) : null;
      else if (kind.equals(open)) lines.add(line);
    }
    return lines;
  }
}

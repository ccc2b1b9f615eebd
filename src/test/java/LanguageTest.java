import java.lang.reflect.Constructor;
import java.lang.reflect.Field;
import java.lang.reflect.Method;
import java.lang.reflect.Modifier;
import java.nio.charset.StandardCharsets;
import java.nio.file.Files;
import java.nio.file.Path;
import java.util.Arrays;
import java.util.List;
import java.util.TreeSet;
import java.util.regex.Matcher;
import java.util.regex.Pattern;

/** The rules of LANGUAGE.md that can be seen from the source or the compiled class. */
public final class LanguageTest {
  private static final Due due = new Due("LanguageTest");
  private static final List<String> FACE = List.of("int back(int)", "int blots(int, int)", "int cell(int)",
      "int clear()", "int comes(int)", "int count(int)", "int drift(int, int)", "int hour()", "int isle(int, int)",
      "int keep(int)", "int knee(int, int)", "int letter(int, int)", "int lets(int, int, int)",
      "int lightest(int, int, int)", "int loop(int)", "int net(int, int)", "int nets(int, int, int)", "int now(int)",
      "int odds(int, int, int, int)", "int rate(int, int)", "int sea()", "int soonest(int, int, int, int)",
      "int tangled(int, int)", "int turn(int, int)", "int type(int)", "int undo()", "int where(int, int)",
      "int who(int, int, int)", "int wind(int)", "int words(int)", "long trace()");

  public static void main(String[] args) throws Exception {
    face();
    constants();
    classesInside();
    signs();
    words();
    methodLengths();
    due.end();
  }

  private static String told(Method m) {
    StringBuilder args = new StringBuilder();
    for (Class<?> c : m.getParameterTypes()) args.append(args.length() == 0 ? "" : ", ").append(c.getName());
    return m.getReturnType().getName() + " " + m.getName() + "(" + args + ")";
  }

  private static void face() {
    TreeSet<String> open = new TreeSet<>();
    TreeSet<String> names = new TreeSet<>();
    for (Method m : WindPost.class.getDeclaredMethods()) {
      if (!Modifier.isPrivate(m.getModifiers())) { open.add(told(m)); names.add(m.getName()); }
    }
    due.alike("1: the face", open.toString(), new TreeSet<>(FACE).toString());
    TreeSet<Class<?>> none = new TreeSet<>((a, b) -> a.getName().compareTo(b.getName()));
    none.add(WindPost.class);
    none.addAll(Arrays.asList(WindPost.class.getDeclaredClasses()));
    for (Class<?> c : none) {
      for (Method m : c.getDeclaredMethods()) {
        boolean its = c == WindPost.class && !Modifier.isPrivate(m.getModifiers());
        if (!its && names.contains(m.getName())) due.alike("1: a name of the face", m.toString(), "");
        due.is("11: at most seven parameters: " + m, m.getParameterCount() <= 7 ? 1 : 0, 1);
      }
    }
    Constructor<?>[] made = WindPost.class.getDeclaredConstructors();
    due.is("1: constructors", made.length, 1);
    due.is("1: it is public", Modifier.isPublic(made[0].getModifiers()) ? 1 : 0, 1);
    due.is("1: the class", WindPost.class.getModifiers(), Modifier.PUBLIC | Modifier.FINAL);
  }

  private static void constants() {
    due.is("BAD", WindPost.BAD, -1);
    due.is("STATE", WindPost.STATE, -2);
    due.is("FULL", WindPost.FULL, -3);
    due.is("NONE", WindPost.NONE, -9);
    due.is("NO", WindPost.NO, -1000000);
    TreeSet<String> open = new TreeSet<>();
    for (Field f : WindPost.class.getDeclaredFields()) {
      if (!Modifier.isPrivate(f.getModifiers())) open.add(f.getName());
    }
    due.alike("1: the constants", open.toString(), "[BAD, FULL, NO, NONE, STATE]");
  }

  private static void classesInside() {
    Class<?>[] inside = WindPost.class.getDeclaredClasses();
    due.is("11: at most twelve classes", inside.length < 12 ? 1 : 0, 1);
    for (Class<?> c : inside) {
      int m = c.getModifiers();
      due.is("2: static: " + c, Modifier.isStatic(m) ? 1 : 0, 1);
      due.is("1: not open: " + c, Modifier.isPublic(m) || Modifier.isProtected(m) ? 1 : 0, 0);
      fields(c);
    }
    fields(WindPost.class);
  }

  private static void fields(Class<?> c) {
    int own = 0;
    for (Field f : c.getDeclaredFields()) {
      if (!Modifier.isStatic(f.getModifiers())) own++;
      else due.is("5: final: " + f, Modifier.isFinal(f.getModifiers()) ? 1 : 0, 1);
    }
    due.is("11: at most twenty fields: " + c, own <= 20 ? 1 : 0, 1);
  }

  private static String source() throws Exception {
    String place = System.getProperty("windpost.source", "src/main/java/WindPost.java");
    return Files.readString(Path.of(place), StandardCharsets.ISO_8859_1);
  }

  private static void signs() throws Exception {
    int strange = 0;
    for (char c : source().toCharArray()) if (c > 126 || c < ' ' && c != '\n') strange++;
    due.is("4: signs beyond 126, tabs", strange, 0);
  }

  private static void words() throws Exception {
    String bare = source().replaceAll("(?s)/\\*.*?\\*/", "").replaceAll("//[^\n]*", "");
    String[] none = {"throw", "throws", "try", "catch", "synchronized", "assert", "import", "package", "var",
        "float", "double", "Object", "System\\.(?!arraycopy)", "\\w+Exact", "equals", "hashCode", "toString",
        "native", "volatile", "transient", "yield"};
    for (String word : none) {
      Matcher m = Pattern.compile("\\b" + word + "\\b").matcher(bare);
      due.alike("6: " + word, m.find() ? m.group() : "", "");
    }
    for (String sign : List.of("->", "::", "@", "\\u")) due.is("2: " + sign, bare.indexOf(sign), -1);
  }

  private static void methodLengths() throws Exception {
    String[] lines = source().split("\n");
    for (int start = 0; start < lines.length; start++) {
      Matcher m = Pattern.compile("^( {2}| {4})(?! ).*\\) \\{$").matcher(lines[start]);
      if (!m.find()) continue;
      int end = start;
      while (end < lines.length && !lines[end].equals(m.group(1) + "}")) end++;
      due.is("11: at most sixty lines: " + lines[start].trim(), end - start < 60 ? 1 : 0, 1);
    }
  }
}

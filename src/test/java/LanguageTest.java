import java.lang.reflect.Constructor;
import java.lang.reflect.Field;
import java.lang.reflect.Method;
import java.lang.reflect.Modifier;
import java.nio.charset.StandardCharsets;
import java.nio.file.Files;
import java.nio.file.Path;
import java.util.ArrayList;
import java.util.Arrays;
import java.util.List;
import java.util.Set;
import java.util.TreeSet;
import java.util.regex.Matcher;
import java.util.regex.Pattern;

/** The face, and those rules of LANGUAGE.md that a search in the text can see. */
public final class LanguageTest {
  private static final Due due = new Due();
  private static final String[] FACE = {
    "int add(int, int)", "int drop()", "int set(int, int, int)", "int of(int, int)",
    "int spring(int, int)", "int width(int)", "int force(int, int)", "int held(int, int)",
    "int at(int, int, int, int)", "int bad(int, int)", "int sky(int, int, int, int)",
    "int apart(int, int, int, int)", "int lines()", "int line(int, int)", "int total()",
    "int moved(int, int, int)", "int beam(int, int, int)", "int slur(int, int, int)",
    "int feed(int)", "int music()", "int shelf(int, int, int)", "int store(int, int, int)",
    "int fetch(int, int, int)", "int comes(int, int)", "int sheet(int, int, int)",
    "int put(int, int, long, int)", "long bits(int, int)", "int cast(int, int)",
    "int rest(int, int, int)", "int lays(int, int, int)", "int image()", "int restore()",
    "int count(int)", "int told(int)"
  };

  public static void main(String[] args) throws Exception {
    face();
    names();
    fields();
    text();
    due.end();
  }

  // Rule 1
  private static void face() {
    Class<?> c = EngravedLines.class;
    due.holds("public and final", Modifier.isPublic(c.getModifiers())
        && Modifier.isFinal(c.getModifiers()));
    Constructor<?>[] made = c.getDeclaredConstructors();
    due.holds("one public constructor", made.length == 1
        && Modifier.isPublic(made[0].getModifiers()) && made[0].getParameterCount() == 0);
    Set<String> there = new TreeSet<>();
    for (Method m : c.getDeclaredMethods()) {
      if (!Modifier.isPrivate(m.getModifiers())) {
        String s = m.getReturnType() + " " + m.getName() + Arrays.toString(m.getParameterTypes());
        there.add(s.replace('[', '(').replace(']', ')'));
        due.holds(m + " is public and an object's", Modifier.isPublic(m.getModifiers())
            && !Modifier.isStatic(m.getModifiers()));
      }
    }
    due.holds("the face is " + there, there.equals(new TreeSet<>(Arrays.asList(FACE))));
  }

  private static void names() {
    Set<String> isPublic = new TreeSet<>();
    for (String s : FACE) {
      isPublic.add(s.substring(s.indexOf(' ') + 1, s.indexOf('(')));
    }
    List<Class<?>> all = new ArrayList<>(Arrays.asList(EngravedLines.class.getDeclaredClasses()));
    for (Class<?> c : all) {
      due.holds(c + " is static and not public", Modifier.isStatic(c.getModifiers())
          && !Modifier.isPublic(c.getModifiers()));
      for (Method m : c.getDeclaredMethods()) {
        due.holds(m + " bears a name of its own", !isPublic.contains(m.getName()));
      }
    }
    due.holds("some twelve classes", all.size() < 12);
    for (Method m : EngravedLines.class.getDeclaredMethods()) {
      due.holds(m + " bears a name of its own",
          Modifier.isPublic(m.getModifiers()) || !isPublic.contains(m.getName()));
      due.holds(m + " takes at most seven", m.getParameterCount() <= 7);
    }
  }

  // Rules 1, 5, 11
  private static void fields() {
    List<Class<?>> all = new ArrayList<>(Arrays.asList(EngravedLines.class.getDeclaredClasses()));
    all.add(EngravedLines.class);
    for (Class<?> c : all) {
      int own = 0;
      for (Field f : c.getDeclaredFields()) {
        int m = f.getModifiers();
        own += Modifier.isStatic(m) ? 0 : 1;
        due.holds(f + " is final, if static", !Modifier.isStatic(m) || Modifier.isFinal(m));
        due.holds(f + " is private", c != EngravedLines.class || Modifier.isPrivate(m));
      }
      due.holds(c + " has some twenty fields", own <= 20);
    }
  }

  // Rules 2 to 7, 10, 12, 13, as far as words tell
  private static void text() throws Exception {
    byte[] bytes = Files.readAllBytes(Path.of("src/main/java/EngravedLines.java"));
    String s = new String(bytes, StandardCharsets.ISO_8859_1);
    for (byte b : bytes) {
      if (b != '\n' && (b < 32 || b > 126)) {
        due.holds("a sign " + b, false);
      }
    }
    String code = s.replaceAll("/\\*(?s:.*?)\\*/|//[^\n]*", " ");
    String[] banned = {"import", "package", "throw", "throws", "catch", "try", "finally",
      "synchronized", "assert", "instanceof", "Float", "Double", "Long", "Integer", "Object",
      "System", "String", "ArrayList", "var", "protected"};
    for (String word : banned) {
      due.holds("no " + word, !Pattern.compile("\\b" + word + "\\b").matcher(code).find());
    }
    for (String sign : new String[] {"->", "::", "%=", "@", "\"", "Exact"}) {
      due.holds("no " + sign, !code.contains(sign));
    }
    Matcher math = Pattern.compile("Math\\.(\\w+)").matcher(code);
    while (math.find()) {
      due.holds(math.group(), math.group(1).equals("max") || math.group(1).equals("min"));
    }
    onlyAtFirst(code);
    indices(code);
    lengths(s);
  }

  /** Nothing is made but in fields and the constructor. */
  private static void onlyAtFirst(String code) {
    Matcher made = Pattern.compile("(?m)^(.*)\\bnew \\w+").matcher(code);
    while (made.find()) {
      String ahead = made.group(1).trim();
      due.holds("made at first: " + made.group(),
          ahead.startsWith("private final ") || ahead.matches("\\w+ ="));
    }
  }

  /** An index stands only behind a test of it, on its own line or the one ahead. */
  private static void indices(String code) {
    String[] lines = code.split("\n");
    for (int i = 1; i < lines.length; i++) {
      Matcher m = Pattern.compile("(?<!new )\\b(\\w+)\\[(\\w+)\\]").matcher(lines[i]);
      while (m.find()) {
        String near = lines[i - 1] + lines[i];
        boolean tested = near.contains(m.group(2) + " >= 0") || near.contains("int i = 0");
        due.holds("tested: " + lines[i].trim(),
            tested && near.contains(m.group(2) + " < " + m.group(1) + ".length"));
      }
    }
  }

  private static void lengths(String s) {
    int line = 0;
    int start = 0;
    for (String l : s.split("\n")) {
      line++;
      due.holds("line " + line + " is at most 100 long", l.length() <= 100);
      if (l.matches(" {2,4}[\\w\\[\\], ]+\\(.*\\) \\{")) {
        start = line;
      }
      if (l.equals("  }") || l.equals("    }")) {
        due.holds("the method that ends at " + line + " is short", line - start <= 60
            || start == 0);
        start = line;
      }
    }
  }
}

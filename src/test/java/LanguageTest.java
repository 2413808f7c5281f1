import java.lang.reflect.Constructor;
import java.lang.reflect.Field;
import java.lang.reflect.Method;
import java.lang.reflect.Modifier;
import java.nio.charset.StandardCharsets;
import java.nio.file.Files;
import java.nio.file.Path;
import java.util.ArrayList;
import java.util.Arrays;
import java.util.List;
import java.util.Set;
import java.util.TreeSet;
import java.util.regex.Matcher;
import java.util.regex.Pattern;

/** The face, and those rules of LANGUAGE.md that reflection or a search in the text can see. */
public final class LanguageTest {
  private static final Due due = new Due();
  private static final String[] FACE = {
    "int add(int, int)", "int drop()", "int set(int, int, int)", "int of(int, int)",
    "int spring(int, int)", "int width(int)", "int force(int, int)", "int held(int, int)",
    "int at(int, int, int, int)", "int bad(int, int)", "int sky(int, int, int, int)",
    "int apart(int, int, int, int)", "int lines()", "int line(int, int)", "int total()",
    "int moved(int, int, int)", "int beam(int, int, int)", "int slur(int, int, int)",
    "int feed(int)", "int music()", "int shelf(int, int, int)", "int store(int, int, int)",
    "int fetch(int, int, int)", "int comes(int, int)", "int sheet(int, int, int)",
    "int put(int, int, long, int)", "long bits(int, int)", "int cast(int, int)",
    "int rest(int, int, int)", "int lays(int, int, int)", "int image()", "int restore()",
    "int count(int)", "int told(int)"
  };
  // "some twelve classes", "some twenty fields", "some sixty lines": a few more are some, too.
  private static final int MOST_CLASSES = 14;
  private static final int MOST_FIELDS = 24;
  private static final int MOST_LINES = 66;

  public static void main(String[] args) throws Exception {
    face();
    names();
    fields();
    byte[] bytes = Files.readAllBytes(Path.of("src/main/java/EngravedLines.java"));
    for (String fault : faults(new String(bytes, StandardCharsets.ISO_8859_1))) {
      due.holds("the program without " + fault, false);
    }
    seesFaults();
    due.end();
  }

  private static List<Class<?>> classes() {
    List<Class<?>> all = new ArrayList<>(Arrays.asList(EngravedLines.class.getDeclaredClasses()));
    all.add(EngravedLines.class);
    return all;
  }

  // Rule 1
  private static void face() {
    Class<?> c = EngravedLines.class;
    due.holds("public and final", Modifier.isPublic(c.getModifiers())
        && Modifier.isFinal(c.getModifiers()));
    Constructor<?>[] made = c.getDeclaredConstructors();
    due.holds("one public constructor", made.length == 1
        && Modifier.isPublic(made[0].getModifiers()) && made[0].getParameterCount() == 0);
    Set<String> there = new TreeSet<>();
    for (Method m : c.getDeclaredMethods()) {
      if (!Modifier.isPrivate(m.getModifiers())) {
        String s = m.getReturnType() + " " + m.getName() + Arrays.toString(m.getParameterTypes());
        there.add(s.replace('[', '(').replace(']', ')'));
        due.holds(m + " is public and an object's", Modifier.isPublic(m.getModifiers())
            && !Modifier.isStatic(m.getModifiers()));
      }
    }
    due.holds("the face is " + there, there.equals(new TreeSet<>(Arrays.asList(FACE))));
  }

  // Rules 1, 11
  private static void names() {
    Set<String> isPublic = new TreeSet<>();
    for (String s : FACE) {
      isPublic.add(s.substring(s.indexOf(' ') + 1, s.indexOf('(')));
    }
    due.holds("some twelve classes", classes().size() <= MOST_CLASSES);
    for (Class<?> c : classes()) {
      due.holds(c + " is not public", c == EngravedLines.class
          || !Modifier.isPublic(c.getModifiers()) && !Modifier.isProtected(c.getModifiers()));
      for (Method m : c.getDeclaredMethods()) {
        due.holds(m + " bears a name of its own",
            !Modifier.isPrivate(m.getModifiers()) || !isPublic.contains(m.getName()));
        due.holds(m + " takes at most seven", m.getParameterCount() <= 7);
      }
    }
  }

  // Rules 1, 5, 11
  private static void fields() {
    for (Class<?> c : classes()) {
      int own = 0;
      for (Field f : c.getDeclaredFields()) {
        int m = f.getModifiers();
        own += Modifier.isStatic(m) ? 0 : 1;
        due.holds(f + " is final, if static", !Modifier.isStatic(m) || Modifier.isFinal(m));
        due.holds(f + " is private", c != EngravedLines.class || Modifier.isPrivate(m));
      }
      due.holds(c + " has some twenty fields", own <= MOST_FIELDS);
    }
  }

  /** What a text has that the rules leave out, as far as words tell. */
  private static List<String> faults(String source) {
    List<String> found = new ArrayList<>();
    String code = bare(source);
    words(code, found);
    library(code, found);
    exceptions(code, found);
    lengths(code, found);
    for (int i = 0; i < code.length(); i++) {
      if (code.charAt(i) > 127) {
        found.add("a sign above 127");
      }
    }
    return found;
  }

  /** The text without its comments and without what its literals hold. */
  private static String bare(String source) {
    String one = "//[^\n]*|/\\*(?s:.*?)\\*/|\"(?:\\\\.|[^\"\\\\\n])*\"|'(?:\\\\.|[^'\\\\\n])+'";
    Matcher m = Pattern.compile(one).matcher(source);
    StringBuilder code = new StringBuilder();
    int from = 0;
    while (m.find()) {
      code.append(source, from, m.start());
      String it = m.group();
      String empty = it.startsWith("\"") ? "\"\"" : "''";
      code.append(it.startsWith("/") ? it.replaceAll("[^\n]", " ") : empty);
      from = m.end();
    }
    return code.append(source.substring(from)).toString();
  }

  // Rules 1 to 6, 13
  private static void words(String code, List<String> found) {
    String[] banned = {"package", "finally", "synchronized", "assert", "volatile", "native",
      "protected", "Object", "Float", "Double", "Boolean", "Character", "Short", "Byte", "Number",
      "Thread", "Random", "Map", "HashMap", "TreeMap", "HashSet", "Deque", "ArrayDeque", "Objects",
      "Collections", "Optional", "Stream", "Runtime", "Class", "getMessage", "printStackTrace"};
    for (String word : banned) {
      boolean isOwn = has(code, "\\b(class|record|enum|interface) " + word + "\\b");
      if (!isOwn && has(code, "\\b" + word + "\\b")) {
        found.add(word);
      }
    }
    if (has(code, "\\bstatic\\s*\\{")) {
      found.add("a static block");
    }
    if (has(code, "::")) {
      found.add("::");
    }
    // Behind a case an arrow is none of a lambda.
    if (has(code.replaceAll("\\b(case [^;{}:>]*|default\\s*)->", ""), "->")) {
      found.add("->");
    }
  }

  // Rule 4
  private static void library(String code, List<String> found) {
    Matcher taken = Pattern.compile("\\bimport\\s+([\\w.* ]+);").matcher(code);
    while (taken.find()) {
      String it = taken.group(1).trim();
      String known = "java\\.util\\.(\\*|ArrayList|List|Arrays|Iterator|NoSuchElementException)";
      if (!it.matches(known)) {
        found.add("import " + it);
      }
    }
    Matcher asked = Pattern.compile("\\b(Math|Integer|Long|System)\\.(\\w+)").matcher(code);
    while (asked.find()) {
      String it = asked.group(2);
      boolean isLeftOut = it.endsWith("Exact") || it.matches("sqrt|cbrt|pow|exp|log\\w*|sin|cos|tan"
          + "|asin|acos|atan\\w*|hypot|floor|ceil|rint|round|random|ulp|scalb|fma|nextUp|nextDown"
          + "|copySign|signum|getInteger|getLong");
      if (asked.group(1).equals("System") ? !it.equals("arraycopy") : isLeftOut) {
        found.add(asked.group());
      }
    }
  }

  // Rule 6
  private static void exceptions(String code, List<String> found) {
    String known = "(IllegalStateException|IllegalArgumentException|IndexOutOfBoundsException"
        + "|ArithmeticException|UnsupportedOperationException|NoSuchElementException"
        + "|RuntimeException)";
    if (has(code, "\\bthrow\\b(?!\\s+new\\s+" + known + "\\s*\\()")) {
      found.add("throw of another kind");
    }
    if (has(code, "\\bcatch\\s*\\((?!\\s*(final\\s+)?" + known + "\\b)")) {
      found.add("catch of another kind");
    }
    if (has(code, "\\btry\\s*\\(")) {
      found.add("try with resources");
    }
  }

  // Rule 11
  private static void lengths(String code, List<String> found) {
    Matcher head = Pattern.compile("\\b(\\w+)\\s*\\([^()]*\\)\\s*\\{").matcher(code);
    while (head.find()) {
      int lines = 1;
      int depth = 1;
      for (int i = head.end(); i < code.length() && depth > 0; i++) {
        char c = code.charAt(i);
        depth += c == '{' ? 1 : c == '}' ? -1 : 0;
        lines += c == '\n' ? 1 : 0;
      }
      if (lines > MOST_LINES) {
        found.add(head.group(1) + " of " + lines + " lines");
      }
    }
  }

  private static boolean has(String code, String pattern) {
    return Pattern.compile(pattern).matcher(code).find();
  }

  /** A search that finds nothing anywhere would pass every program. */
  private static void seesFaults() {
    String[] left = {"int x = Math.max(1, 2);", "case 1 -> x = 2;", "default -> x = 2;",
      "// finally :: Float\n", "/* Object\n -> */", "String s = \"try (Float::new)\";",
      "char c = '\"'; char d = '\\''; int e = 1;", "throw new IllegalStateException(\"no\");",
      "catch (ArithmeticException e) { x = 1; }", "import java.util.ArrayList;",
      "System.arraycopy(a, 0, b, 0, 1);", "static final class Map { }  Map m;",
      "int f() {\n" + "x++;\n".repeat(50) + "}"};
    for (String s : left) {
      due.holds("nothing is found in " + s + ": " + faults(s), faults(s).isEmpty());
    }
    String[] ruledOut = {"package a;", "Float.floatToIntBits(x)", "Object o;", "x -> x", "A::new",
      "static { x = 1; }", "import java.util.HashSet;", "Math.addExact(1, 2)", "Math.sqrt(x)",
      "System.nanoTime()", "throw new Error();", "throw e;", "catch (Exception e) { }",
      "catch (NullPointerException e) { }", "try (A a = b) { }", "try { } finally { }",
      "synchronized void f() { }", "assert x;", "int \u00e9;", "double x; Double y;",
      "char c = '\"'; Float f; char d = '\"';", "int f() {\n" + "x++;\n".repeat(80) + "}"};
    for (String s : ruledOut) {
      due.is("what is found in " + s + ": " + faults(s), faults(s).size() > 0 ? 1 : 0, 1);
    }
  }
}

import java.lang.reflect.Method;
import java.lang.reflect.Modifier;
import java.nio.charset.StandardCharsets;
import java.nio.file.Files;
import java.nio.file.Path;
import java.util.Set;
import java.util.TreeSet;
import java.util.regex.Matcher;
import java.util.regex.Pattern;

/** The examples of README.md are one run on one object: each answers what stands behind it. */
public final class ReadmeTest {
  private static final Due due = new Due();
  private static final Pattern CALL =
      Pattern.compile("e\\.(\\w+)\\(([-\\d, ]*)\\); +// (-?\\d+)(?:: (.*))?");
  private static final Pattern FED =
      Pattern.compile("for \\(char c : \"(.*)\"\\.toCharArray\\(\\)\\) e\\.feed\\(c\\);");
  private static final Pattern BITS = Pattern.compile("BITS of (-?\\d+\\.\\d+).*");
  private static final Set<String> shown = new TreeSet<>();

  public static void main(String[] args) throws Exception {
    EngravedLines e = new EngravedLines();
    boolean isJava = false;
    for (String line : Files.readAllLines(Path.of("README.md"), StandardCharsets.US_ASCII)) {
      if (line.startsWith("```")) {
        isJava = line.equals("```java");
      } else if (isJava) {
        example(e, line);
      }
    }
    for (Method m : EngravedLines.class.getDeclaredMethods()) {
      if (Modifier.isPublic(m.getModifiers())) {
        due.holds("README.md shows " + m.getName(), shown.contains(m.getName()));
      }
    }
    due.end();
  }

  private static void example(EngravedLines e, String line) throws Exception {
    Matcher call = CALL.matcher(line);
    Matcher fed = FED.matcher(line);
    if (call.matches()) {
      long answer = answer(e, call.group(1), call.group(2));
      due.is(line, answer, Long.parseLong(call.group(3)));
      bits(line, answer, call.group(4));
    } else if (fed.matches()) {
      shown.add("feed");
      Due.feed(e, fed.group(1));
    } else {
      due.holds(line, line.equals("EngravedLines e = new EngravedLines();"));
    }
  }

  private static long answer(EngravedLines e, String name, String list) throws Exception {
    shown.add(name);
    String[] parts = list.isEmpty() ? new String[0] : list.split(", ");
    for (Method m : EngravedLines.class.getDeclaredMethods()) {
      if (!m.getName().equals(name) || m.getParameterCount() != parts.length) {
        continue;
      }
      Object[] args = new Object[parts.length];
      for (int i = 0; i < parts.length; i++) {
        boolean isLong = m.getParameterTypes()[i] == long.class;
        args[i] = isLong ? (Object) Long.valueOf(parts[i]) : (Object) Integer.valueOf(parts[i]);
      }
      return ((Number) m.invoke(e, args)).longValue();
    }
    due.holds("there is a call " + name + " of " + parts.length, false);
    return 0;
  }

  private static void bits(String line, long answer, String remark) {
    Matcher bits = BITS.matcher(remark == null ? "" : remark);
    if (bits.matches()) {
      due.bits(line, (int) answer, Float.parseFloat(bits.group(1)));
    }
  }
}

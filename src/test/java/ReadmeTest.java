import java.io.IOException;
import java.lang.reflect.InvocationTargetException;
import java.lang.reflect.Method;
import java.lang.reflect.Modifier;
import java.nio.charset.StandardCharsets;
import java.nio.file.Files;
import java.nio.file.Path;
import java.util.regex.Matcher;
import java.util.regex.Pattern;

/** What README.md says: its example's calls answer what stands beside them, and its table has every call. */
public final class ReadmeTest {

  private static final Pattern CALL = Pattern.compile("(?m)^x\\.(\\w+)\\(([^)]*)\\); +// (-?\\d+)\\b.*$");

  private static int wrong = 0;

  private static void check(boolean is, String what) {
    if (!is) {
      wrong++;
      System.out.println("not so: " + what);
    }
  }

  public static void main(String[] args) throws IOException, IllegalAccessException, InvocationTargetException {
    String readme = Files.readString(Path.of("README.md"), StandardCharsets.UTF_8);
    example(between(readme, "```java\n", "```"));
    village(between(readme, "```text\n", "\n```"));
    table(readme);
    System.out.println(wrong == 0 ? "README.md tells what is so" : wrong + " things are not so");
    if (wrong != 0) {
      System.exit(1);
    }
  }

  private static String between(String text, String head, String end) {
    int from = text.indexOf(head);
    int to = from < 0 ? -1 : text.indexOf(end, from + head.length());
    check(to >= 0, "there is a block " + head.trim());
    return to < 0 ? "" : text.substring(from + head.length(), to);
  }

  private static Method named(String name) {
    for (Method m : OnlyWhatFits.class.getDeclaredMethods()) {
      if (Modifier.isPublic(m.getModifiers()) && m.getName().equals(name)) {
        return m;
      }
    }
    throw new IllegalStateException("no such call: " + name);
  }

  private static void example(String block) throws IllegalAccessException, InvocationTargetException {
    OnlyWhatFits x = new OnlyWhatFits();
    int calls = 0;
    Matcher m = CALL.matcher(block);
    while (m.find()) {
      calls++;
      Method call = named(m.group(1));
      Class<?>[] types = call.getParameterTypes();
      String[] words = m.group(2).isEmpty() ? new String[0] : m.group(2).split(", ");
      Object[] numbers = new Object[types.length];
      for (int i = 0; i < types.length; i++) {
        numbers[i] = types[i] == boolean.class ? (Object) Boolean.valueOf(words[i]) : (Object) Integer.valueOf(words[i]);
      }
      long got = ((Number) call.invoke(x, numbers)).longValue();
      check(got == Long.parseLong(m.group(3)), m.group() + " (it answered " + got + ")");
    }
    check(calls == block.split("\n").length - 1, "each line but the first is a call with its answer");
  }

  private static void village(String text) {
    OnlyWhatFits x = new OnlyWhatFits();
    for (int i = 0; i < text.length(); i++) {
      x.feed(text.charAt(i), 1);
    }
    check(x.village() == 5, "the village has five statements");
    check(x.odds(0) == 70 && x.room() == 1, "the village is the one of the example");
  }

  private static void table(String readme) {
    String rows = between(readme, "| for | calls |", "\n\n");
    for (Method m : OnlyWhatFits.class.getDeclaredMethods()) {
      if (Modifier.isPublic(m.getModifiers())) {
        check(rows.contains("`" + m.getName() + "`"), "the table has " + m.getName());
      }
    }
  }
}

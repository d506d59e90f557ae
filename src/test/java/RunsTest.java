import java.io.IOException;
import java.lang.reflect.InvocationTargetException;
import java.lang.reflect.Method;
import java.lang.reflect.Modifier;
import java.nio.charset.StandardCharsets;
import java.nio.file.Files;
import java.nio.file.Path;
import java.util.ArrayList;
import java.util.Arrays;
import java.util.HashMap;
import java.util.List;
import java.util.Map;

/**
 * The runs of calls under src/test/runs, a file for each promise. A run is told by a line that begins
 * with ==, and lines of calls on a new object:
 *
 *   call a b = answer    it answers this (? stands for any), and nothing is refused
 *   call a b ! answer    it is refused with this: the refusal is counted, and nothing else changes
 *   tape "text"          the tape is fed a text (\20 is the byte 32), four bytes at a time
 *   read "text" = answer the same, then village()
 *   fill s sort v v v    a row, and all its elements
 *   elements s v v v     element(s, 0 on) answer this
 *   holders o o, seconds o o   partOf(0 on, 0), partOf(0 on, 1) answer this
 *   rich                 the calls of the file rich.txt
 *   again n call         the same call n times, with any answer
 *
 * What a refused call may have changed is looked for in a twin: an object that has had the same calls but
 * that one. The same is done for calls that tell something and change nothing.
 */
public final class RunsTest {

  private static final Path RUNS = Path.of("src/test/runs");
  private static final int MOST_CALLS = 512;
  private static final int PROMISES = 55;
  private static final List<String> TELLING = Arrays.asList("element", "holds", "says", "partOf", "machineOf", "oneOf", "has",
      "works", "both", "odds", "atOnce", "day", "power", "first", "would", "head", "best", "bestDay", "bears", "harms", "least",
      "stolen", "spare", "gift", "never", "with", "safe", "alone", "key", "idle", "room", "trust", "judge", "told", "status");

  private static final Map<String, Method> METHODS = new HashMap<>();
  private static final List<Call> RICH = new ArrayList<>();
  private static int wrong = 0;
  private static int runs = 0;
  private static int checks = 0;

  /** One call of a run, and what is due of it. */
  private static final class Call {
    final String told;
    final Method method;
    final Object[] numbers;
    final boolean isRefused;
    final boolean isAny;
    final long due;

    Call(String name, String[] words, boolean isRefused, String due) {
      told = name + " " + String.join(" ", words);
      method = METHODS.get(name);
      if (method == null || method.getParameterCount() != words.length) {
        throw new IllegalStateException("no such call: " + told);
      }
      numbers = new Object[words.length];
      for (int i = 0; i < words.length; i++) {
        numbers[i] = number(words[i], method.getParameterTypes()[i]);
      }
      this.isRefused = isRefused;
      isAny = due.equals("?");
      this.due = isAny ? 0 : Long.parseLong(due);
    }

    static Object number(String word, Class<?> type) {
      if (type == boolean.class) {
        if (!word.equals("true") && !word.equals("false")) {
          throw new IllegalStateException("neither true nor false: " + word);
        }
        return word.equals("true");
      }
      if (word.equals("MIN")) {
        return type == int.class ? (Object) Integer.MIN_VALUE : (Object) Long.MIN_VALUE;
      }
      if (word.equals("MAX")) {
        return type == int.class ? (Object) Integer.MAX_VALUE : (Object) Long.MAX_VALUE;
      }
      return type == int.class ? (Object) Integer.parseInt(word) : (Object) Long.parseLong(word);
    }

    /** Whether an object that has had this call shows the same as one that has not. */
    boolean changesNothing() {
      return isRefused || TELLING.contains(method.getName());
    }
  }

  /** An object, and how many calls it has had. */
  private static final class Counted {
    final OnlyWhatFits x = new OnlyWhatFits();
    int calls = 0;

    long answer(Call c) {
      return answer(c.method, c.numbers);
    }

    long ask(String name, Object... numbers) {
      return answer(METHODS.get(name), numbers);
    }

    long answer(Method method, Object... numbers) {
      calls++;
      if (calls > MOST_CALLS) {
        throw new IllegalStateException("more than " + MOST_CALLS + " calls: " + method.getName());
      }
      try {
        return ((Number) method.invoke(x, numbers)).longValue();
      } catch (InvocationTargetException | IllegalAccessException thrown) {
        throw new IllegalStateException(method.getName() + Arrays.toString(numbers) + " threw " + thrown.getCause());
      }
    }

    Counted had(List<Call> calls, int n) {
      for (int k = 0; k < n; k++) {
        answer(calls.get(k));
      }
      return this;
    }

    /** How many refusals of each number there were. */
    long[] refusals() {
      long[] found = new long[5];
      for (int k = 0; k < 5; k++) {
        found[k] = ask("status", 12 + k);
      }
      return found;
    }

    /** All that calls can tell of it but its refusals; the object is spent by this. */
    String allThatShows() {
      StringBuilder text = new StringBuilder();
      villageShows(text);
      for (int s = 0; s < 8; s++) {
        shelfShows(text, s);
      }
      text.append(" village ").append(ask("village"));
      villageShows(text);
      text.append(" back ").append(ask("back"));
      villageShows(text);
      return text.toString();
    }

    private void villageShows(StringBuilder text) {
      text.append("\n   status");
      for (int what = 0; what < 10; what++) {
        text.append(' ').append(ask("status", what));
      }
      text.append(" parts");
      for (int p = 0; p < ask("status", 0); p++) {
        text.append(' ').append(ask("partOf", p, 0)).append('/').append(ask("partOf", p, 1));
      }
      text.append(" machines");
      for (int m = 0; m < ask("status", 1); m++) {
        text.append(' ').append(ask("machineOf", m, 0)).append('/').append(ask("machineOf", m, 1));
      }
      text.append(" people");
      for (int o = 0; o < ask("status", 2); o++) {
        for (int what = 0; what < 5; what++) {
          text.append(what == 0 ? ' ' : '/').append(ask("oneOf", o, what));
        }
      }
    }

    private void shelfShows(StringBuilder text, int s) {
      long thing = ask("holds", s);
      text.append("\n   shelf ").append(thing);
      if (thing >= 10) {
        text.append(" by ").append(ask("says", s, 0));
      } else if (thing >= 0) {
        boolean isThere = true;
        for (int i = 0; isThere; i++) {
          long v = ask("element", s, i);
          isThere = ask("set", s, i, v) == 1;
          text.append(isThere ? " " + v : "");
        }
      }
    }
  }

  public static void main(String[] args) throws IOException {
    for (Method m : OnlyWhatFits.class.getDeclaredMethods()) {
      if (Modifier.isPublic(m.getModifiers())) {
        METHODS.put(m.getName(), m);
      }
    }
    for (String line : Files.readAllLines(RUNS.resolve("rich.txt"), StandardCharsets.US_ASCII)) {
      if (isCall(line)) {
        add(RICH, line.trim());
      }
    }
    for (int n = 1; n <= PROMISES; n++) {
      file(n);
    }
    System.out.println(runs + " runs, " + checks + " checks, " + wrong + " wrong");
    if (wrong != 0) {
      System.exit(1);
    }
  }

  private static boolean isCall(String line) {
    return !line.isBlank() && !line.startsWith("#");
  }

  private static void file(int promise) throws IOException {
    String start = (promise < 10 ? "0" : "") + promise + "-";
    Path found = null;
    try (var paths = Files.newDirectoryStream(RUNS, start + "*.txt")) {
      for (Path path : paths) {
        found = path;
      }
    }
    if (found == null) {
      bad("promise " + promise, "has no file of runs");
      return;
    }
    String heading = null;
    List<Call> calls = new ArrayList<>();
    for (String line : Files.readAllLines(found, StandardCharsets.US_ASCII)) {
      if (line.startsWith("==")) {
        run(found.getFileName() + ": " + heading, calls);
        heading = line.substring(2).trim();
        calls = new ArrayList<>();
      } else if (isCall(line)) {
        try {
          add(calls, line.trim());
        } catch (RuntimeException fault) {
          bad(found.getFileName() + ": " + line, "can't be read: " + fault.getMessage());
        }
      }
    }
    run(found.getFileName() + ": " + heading, calls);
  }

  private static void bad(String where, String what) {
    wrong++;
    System.out.println(where + ": " + what);
  }

  /** Puts the calls of a line behind others. */
  private static void add(List<Call> calls, String line) {
    if (line.equals("rich")) {
      calls.addAll(RICH);
      return;
    }
    if (line.startsWith("tape ") || line.startsWith("read ")) {
      int end = line.lastIndexOf('"');
      feed(calls, line.substring(line.indexOf('"') + 1, end));
      String rest = line.substring(end + 1).trim();
      if (line.startsWith("read ")) {
        calls.add(new Call("village", new String[0], rest.startsWith("!"), rest.substring(1).trim()));
      }
      return;
    }
    String[] words = line.split(" +");
    int n = words.length;
    switch (words[0]) {
      case "again":
        for (int k = 0; k < Integer.parseInt(words[1]); k++) {
          calls.add(new Call(words[2], Arrays.copyOfRange(words, 3, n), false, "?"));
        }
        return;
      case "fill":
        calls.add(new Call("row", new String[] {words[1], words[2], "" + (n - 3)}, false, "1"));
        for (int i = 3; i < n; i++) {
          calls.add(new Call("set", new String[] {words[1], "" + (i - 3), words[i]}, false, "1"));
        }
        return;
      case "elements":
        for (int i = 2; i < n; i++) {
          calls.add(new Call("element", new String[] {words[1], "" + (i - 2)}, false, words[i]));
        }
        return;
      case "holders":
      case "seconds":
        for (int p = 1; p < n; p++) {
          calls.add(new Call("partOf", new String[] {"" + (p - 1), words[0].equals("holders") ? "0" : "1"}, false, words[p]));
        }
        return;
      default:
        if (n < 3 || !words[n - 2].equals("=") && !words[n - 2].equals("!")) {
          throw new IllegalStateException("no answer is told");
        }
        calls.add(new Call(words[0], Arrays.copyOfRange(words, 1, n - 2), words[n - 2].equals("!"), words[n - 1]));
    }
  }

  private static void feed(List<Call> calls, String text) {
    List<Integer> bytes = new ArrayList<>();
    for (int i = 0; i < text.length(); i++) {
      if (text.charAt(i) == '\\') {
        bytes.add(Integer.parseInt(text.substring(i + 1, i + 3), 16));
        i += 2;
      } else {
        bytes.add((int) text.charAt(i));
      }
    }
    for (int from = 0; from < bytes.size(); from += 4) {
      int n = Math.min(4, bytes.size() - from);
      int v = 0;
      for (int k = 0; k < n; k++) {
        v = v << 8 | bytes.get(from + k);
      }
      calls.add(new Call("feed", new String[] {"" + v, "" + n}, false, "?"));
    }
  }

  private static void run(String heading, List<Call> calls) {
    if (calls.isEmpty()) {
      return;
    }
    runs++;
    try {
      Counted one = new Counted();
      for (int k = 0; k < calls.size(); k++) {
        Call c = calls.get(k);
        long got = one.answer(c);
        checks++;
        if (!c.isAny && got != c.due) {
          bad(heading + ": call " + k + ": " + c.told, "answered " + got + ", due is " + c.due);
        }
      }
      for (int k = 0; k < calls.size(); k++) {
        refusals(heading, calls, k);
        if (calls.get(k).changesNothing()) {
          twins(heading, calls, k);
        }
      }
    } catch (IllegalStateException fault) {
      bad(heading, fault.getMessage());
    }
  }

  /** Which refusal is counted by a call's answer. */
  private static int placeOf(Call c) {
    if (c.method.getName().equals("village")) {
      return 0;
    }
    return (int) (-c.due % 100) - 2;
  }

  /** Call k counts as many refusals as it should. */
  private static void refusals(String heading, List<Call> calls, int k) {
    Call c = calls.get(k);
    Counted one = new Counted().had(calls, k);
    long[] want = one.refusals();
    one.answer(c);
    if (c.isRefused) {
      want[placeOf(c)]++;
    }
    long[] got = one.refusals();
    checks++;
    if (!Arrays.equals(got, want)) {
      bad(heading + ": call " + k + ": " + c.told, "refusals are " + Arrays.toString(got) + ", due are " + Arrays.toString(want));
    }
  }

  /** All shows alike with and without call k; a village's text is wiped either way. */
  private static void twins(String heading, List<Call> calls, int k) {
    Call c = calls.get(k);
    Counted one = new Counted().had(calls, k);
    one.answer(c);
    Counted other = new Counted().had(calls, k);
    if (c.method.getName().equals("village")) {
      other.ask("wipe");
    }
    String got = one.allThatShows();
    String want = other.allThatShows();
    checks++;
    if (!got.equals(want)) {
      bad(heading + ": call " + k + ": " + c.told, "changed something:\n" + want + "\n  became\n" + got);
    }
  }
}

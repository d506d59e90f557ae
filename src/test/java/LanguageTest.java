import java.io.IOException;
import java.lang.reflect.Constructor;
import java.lang.reflect.Field;
import java.lang.reflect.Method;
import java.lang.reflect.Modifier;
import java.nio.charset.StandardCharsets;
import java.nio.file.Files;
import java.nio.file.Path;
import java.util.Arrays;
import java.util.List;
import java.util.TreeSet;
import java.util.regex.Matcher;
import java.util.regex.Pattern;

/** The face of the class, and what can be seen of the rules of LANGUAGE.md from outside. */
public final class LanguageTest {

  private static final String FACE = "int row(int,int,int);int set(int,int,long);int copy(int,int,int,int,int);"
      + "long element(int,int);int holds(int);int holding(int,int,int);int says(int,int);int part();int machine(int,int);"
      + "int one(int,int);int away(int,int);int cross(int,boolean);int give(int,int,boolean);int feed(int,int);int wipe();"
      + "int village();int partOf(int,int);int machineOf(int,int);int oneOf(int,int);int has(int);int works(int,int);"
      + "int both(int,int,int);long odds(int);long atOnce(int,int);long day();int power(int,int);int first();int lay(int);"
      + "long would(int);int head();int best(int);long bestDay();int bears(int);int harms();int least();int stolen();"
      + "int spare();long gift(int,int);int never(boolean);int with(int);int safe(int);int alone(int);int key();int idle();"
      + "int room();int swap(int,int);long trust(int,int);int judge(int,int,int);int told(int,int);int days(int);"
      + "int seed(int);int image();int back();int status(int)";

  private static int wrong = 0;

  private static void check(boolean is, String what) {
    if (!is) {
      wrong++;
      System.out.println("not so: " + what);
    }
  }

  public static void main(String[] args) throws IOException {
    face();
    classesInside();
    text(Files.readString(Path.of("src/main/java/OnlyWhatFits.java"), StandardCharsets.UTF_8));
    System.out.println(wrong == 0 ? "face and language as they should be" : wrong + " rules broken");
    if (wrong != 0) {
      System.exit(1);
    }
  }

  private static void face() {
    TreeSet<String> want = new TreeSet<>(Arrays.asList(FACE.split(";")));
    TreeSet<String> got = new TreeSet<>();
    TreeSet<String> publicNames = new TreeSet<>();
    for (Method m : OnlyWhatFits.class.getDeclaredMethods()) {
      if (Modifier.isPublic(m.getModifiers())) {
        StringBuilder types = new StringBuilder();
        for (Class<?> t : m.getParameterTypes()) {
          types.append(types.length() == 0 ? "" : ",").append(t.getName());
        }
        got.add(m.getReturnType().getName() + " " + m.getName() + "(" + types + ")");
        publicNames.add(m.getName());
        check(!Modifier.isStatic(m.getModifiers()), m.getName() + " is not static");
      }
    }
    check(got.equals(want), "the methods are those of the face: " + got);
    for (Method m : OnlyWhatFits.class.getDeclaredMethods()) {
      boolean isPrivate = Modifier.isPrivate(m.getModifiers());
      check(isPrivate || Modifier.isPublic(m.getModifiers()), m.getName() + " is public or private");
      check(!isPrivate || !publicNames.contains(m.getName()), m.getName() + " bears no public method's name");
    }
    for (Field f : OnlyWhatFits.class.getDeclaredFields()) {
      check(f.getName().equals("NONE") == Modifier.isPublic(f.getModifiers()), f.getName() + " is public only if NONE");
      check(Modifier.isPublic(f.getModifiers()) || Modifier.isPrivate(f.getModifiers()), f.getName() + " is private");
      check(!Modifier.isStatic(f.getModifiers()) || Modifier.isFinal(f.getModifiers()), f.getName() + " is final");
    }
    Constructor<?>[] makers = OnlyWhatFits.class.getDeclaredConstructors();
    check(makers.length == 1 && Modifier.isPublic(makers[0].getModifiers()) && makers[0].getParameterCount() == 0, "one constructor");
    check(Modifier.isFinal(OnlyWhatFits.class.getModifiers()) && Modifier.isPublic(OnlyWhatFits.class.getModifiers()), "public final");
    for (Class<?> c : OnlyWhatFits.class.getDeclaredClasses()) {
      for (Method m : c.getDeclaredMethods()) {
        boolean isPrivate = Modifier.isPrivate(m.getModifiers());
        check(!isPrivate || !publicNames.contains(m.getName()), c.getName() + "." + m.getName() + " bears no public method's name");
      }
    }
  }

  private static void classesInside() {
    Class<?>[] inside = OnlyWhatFits.class.getDeclaredClasses();
    check(inside.length <= 12, "at most some twelve classes");
    for (Class<?> c : inside) {
      check(Modifier.isStatic(c.getModifiers()), c + " is static");
      check(!Modifier.isPublic(c.getModifiers()) && !Modifier.isProtected(c.getModifiers()), c + " is private or package-visible");
      int fields = 0;
      for (Field f : c.getDeclaredFields()) {
        boolean isStatic = Modifier.isStatic(f.getModifiers());
        fields += isStatic ? 0 : 1;
        check(!isStatic || Modifier.isFinal(f.getModifiers()), f + " is final");
        check(!isStatic || f.getType().isPrimitive() || f.getType() == String.class || f.getType().isArray(), f + " is a constant");
      }
      check(fields <= 20, c + " has at most twenty fields");
    }
  }

  private static void text(String source) {
    for (int k = 0; k < source.length(); k++) {
      check(source.charAt(k) < 128, "only ASCII at " + k);
    }
    String code = source.replaceAll("(?s)/\\*.*?\\*/", "").replaceAll("//[^\n]*", "");
    List<String> imports = Arrays.asList("import java.util.Arrays;", "import java.util.ArrayList;", "import java.util.List;",
        "import java.util.Iterator;");
    Matcher m = Pattern.compile("import [^;]*;|package [^;]*;").matcher(code);
    while (m.find()) {
      check(imports.contains(m.group()), m.group());
    }
    String bare = code.replaceAll("\"[^\"\n]*\"", "\"\"").replaceAll("'\\\\?.'", "' '");
    String[] forbidden = {"throw", "throws", "try", "catch", "finally", "synchronized", "assert", "hashCode", "Thread", "Random",
      "Object", "volatile", "transient", "native", "protected", "System\\.(?!arraycopy)\\w+", "\\w+Exact"};
    for (String word : forbidden) {
      check(!Pattern.compile("\\b" + word + "\\b").matcher(bare).find(), "no " + word);
    }
    String withoutCases = bare.replaceAll("(case [^;{}\n]*|default) ->", "");
    check(!withoutCases.contains("->") && !withoutCases.contains("::"), "no lambda, no method reference");
    check(!Pattern.compile("\"\"\\s*\\+|[^+]\\+\\s*\"\"").matcher(bare).find(), "no texts joined by +");
    methodsAreShort(bare);
  }

  /** Methods stand two blanks deeper than their class: each from its head to its closing brace. */
  private static void methodsAreShort(String code) {
    Matcher m = Pattern.compile("(?m)^( {2,4})[^ \n][^;\n]*\\) \\{\n(?:.*\n)*?\\1\\}$").matcher(code);
    int found = 0;
    while (m.find()) {
      found++;
      int lines = m.group().split("\n").length;
      check(lines <= 60, lines + " lines: " + m.group().split("\n")[0].trim());
      String head = m.group().split("\n")[0];
      check(head.split(",").length <= 7, "at most seven parameters: " + head.trim());
      check(!callsItself(head, m.group()) || head.contains("private static "), "who calls itself is private static: " + head.trim());
    }
    check(found >= 55, "methods are found: " + found);
  }

  /** Whether a method's name stands before a bracket once more behind its head, not as another object's. */
  private static boolean callsItself(String head, String method) {
    Matcher name = Pattern.compile("(\\w+)\\(").matcher(head);
    return name.find() && Pattern.compile("(?<![.\\w])(this\\.)?" + name.group(1) + "\\(").matcher(method.substring(head.length())).find();
  }
}

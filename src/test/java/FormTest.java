import java.lang.reflect.Array;
import java.lang.reflect.Constructor;
import java.lang.reflect.Field;
import java.lang.reflect.Method;
import java.lang.reflect.Modifier;
import java.nio.file.Files;
import java.nio.file.Path;
import java.util.ArrayDeque;
import java.util.Deque;
import java.util.HashSet;
import java.util.IdentityHashMap;
import java.util.Map;
import java.util.Set;
import java.util.TreeMap;
import java.util.TreeSet;
import java.util.regex.Matcher;
import java.util.regex.Pattern;

/** The face of the document, and the rules of LANGUAGE.md, each as far as members or words of the file show it. */
public final class FormTest {
  private static final Path FILE = Path.of("src/main/java/PulseNet.java");
  private static final Set<String> FACE = new TreeSet<>(Set.of("int begin(int)", "int link(int,int,int)",
      "int mark(int,int)", "int start(int,int,int,int,int)", "int come(int)", "int flow(int,int)",
      "int told(int,int)", "int past(int,int)", "int inStep(int,int)", "int differ()", "int letter(int,int)",
      "int count(int)"));
  private static int wrong = 0;
  private static String code = "";

  public static void main(String[] args) throws Exception {
    code = withoutRemarks(Files.readString(FILE));
    rule1();
    rule2();
    rule3();
    rule4();
    rule5();
    rule6();
    rule8And11();
    rule9();
    rule12();
    System.out.println(wrong == 0 ? "the form is as due" : wrong + " things are not as due");
    if (wrong != 0) {
      System.exit(1);
    }
  }

  private static void due(String what, Object got, Object want) {
    if (!got.equals(want)) {
      wrong++;
      System.out.println(what + " is " + got + ", due is " + want);
    }
  }

  private static String withoutRemarks(String source) {
    return source.replaceAll("(?s)/\\*.*?\\*/", "").replaceAll("//[^\n]*", "");
  }

  private static void noneOf(String rule, String pattern) {
    Matcher m = Pattern.compile(pattern).matcher(code);
    while (m.find()) {
      due(rule + ": in the file", m.group(), "none such");
    }
  }

  private static boolean is(int modifiers, int which) {
    return (modifiers & which) != 0;
  }

  private static Set<Class<?>> everyClass() {
    Set<Class<?>> found = new HashSet<>(Set.of(PulseNet.class.getDeclaredClasses()));
    found.add(PulseNet.class);
    return found;
  }

  private static void rule1() throws IllegalAccessException {
    Class<?> face = PulseNet.class;
    due("rule 1: public and final", face.getModifiers() & (Modifier.PUBLIC | Modifier.FINAL),
        Modifier.PUBLIC | Modifier.FINAL);
    due("rule 1: no package", face.getPackageName(), "");
    Set<String> methods = new TreeSet<>();
    Set<String> names = new TreeSet<>();
    for (Method m : face.getDeclaredMethods()) {
      if (!is(m.getModifiers(), Modifier.PRIVATE)) {
        methods.add(m.toString().replace("public ", "").replace("PulseNet.", ""));
        names.add(m.getName());
      }
    }
    due("rule 1: methods", methods, FACE);
    Set<String> constants = new TreeSet<>();
    for (Field f : face.getDeclaredFields()) {
      if (!is(f.getModifiers(), Modifier.PRIVATE)) {
        int open = Modifier.PUBLIC | Modifier.STATIC | Modifier.FINAL;
        constants.add((f.getModifiers() & open) == open ? f.getName() + " " + f.getInt(null) : f.toString());
      }
    }
    due("rule 1: constants", constants, new TreeSet<>(Set.of("BAD -1", "NONE -2", "NOT_YET -3")));
    Constructor<?>[] makers = face.getDeclaredConstructors();
    due("rule 1: constructors", makers.length, 1);
    due("rule 1: the constructor", makers[0].toString(), "public PulseNet()");
    for (Class<?> own : everyClass()) {
      for (Method m : own.getDeclaredMethods()) {
        boolean borrowed = names.contains(m.getName()) && !is(m.getModifiers(), Modifier.PUBLIC);
        due("rule 1: " + m + " bears a name of the face", borrowed, false);
      }
    }
  }

  private static void rule2() {
    for (Class<?> own : PulseNet.class.getDeclaredClasses()) {
      due("rule 2: " + own + " is static", is(own.getModifiers(), Modifier.STATIC), true);
      due("rule 2: " + own + " is open", is(own.getModifiers(), Modifier.PUBLIC | Modifier.PROTECTED), false);
    }
    noneOf("rule 2", "->|::|\\bnew \\w+\\([^()]*\\) \\{");
  }

  private static void rule3() {
    for (Class<?> own : everyClass()) {
      for (Field f : own.getDeclaredFields()) {
        due("rule 3: the type of " + f, isAllowed(f.getType()), true);
      }
      for (Method m : own.getDeclaredMethods()) {
        due("rule 3: what " + m + " answers", isAllowed(m.getReturnType()), true);
        for (Class<?> taken : m.getParameterTypes()) {
          due("rule 3: what " + m + " takes", isAllowed(taken), true);
        }
      }
    }
    noneOf("rule 3", "\"|'|\\b(double|float|Object|var|String|Integer\\[)\\b");
  }

  private static boolean isAllowed(Class<?> type) {
    return Set.of(int.class, long.class, boolean.class, void.class, int[].class).contains(type)
        || everyClass().contains(type);
  }

  private static void rule4() {
    Set<String> library = Set.of("Arrays.fill", "System.arraycopy", "Integer.bitCount", "Math.min", "Math.max");
    Matcher used = Pattern.compile("\\b([A-Z][a-z]\\w*)\\.(\\w+)").matcher(code);
    while (used.find()) {
      due("rule 4: " + used.group() + " is allowed", library.contains(used.group()), true);
    }
    Matcher imports = Pattern.compile("\\bimport ([^;]+);").matcher(code.replace("java.util.Arrays", "Arrays"));
    while (imports.find()) {
      due("rule 4: an import", imports.group(1), "Arrays");
    }
  }

  private static void rule5() {
    for (Class<?> own : everyClass()) {
      for (Field f : own.getDeclaredFields()) {
        if (is(f.getModifiers(), Modifier.STATIC)) {
          due("rule 5: " + f + " is final", is(f.getModifiers(), Modifier.FINAL), true);
          due("rule 5: " + f + " is a constant", f.getType(), int.class);
        }
      }
    }
    noneOf("rule 5", "\\bstatic\\s*\\{");
  }

  private static void rule6() {
    noneOf("rules 6 and 13", "\\b(throw|throws|try|catch|finally|synchronized|assert|instanceof|equals|hashCode"
        + "|toString|Random|Thread|Exception|Error|package|native|volatile)\\b");
  }

  /** Methods by name with their lines; two of one name count as one, so the depth is never told too small. */
  private static Map<String, String> bodies() {
    Map<String, String> found = new TreeMap<>();
    Matcher head = Pattern.compile("(?m)^( +)(?:(?:public|private|static) )*[\\w\\[\\]]+ (\\w+)\\(([^)]*)\\) \\{$")
        .matcher(code);
    while (head.find()) {
      int close = code.indexOf("\n" + head.group(1) + "}\n", head.end());
      String body = code.substring(head.end(), close);
      due("rule 11: lines of " + head.group(2) + " up to sixty", body.split("\n").length <= 60, true);
      due("rule 11: parameters of " + head.group(2) + " up to seven", head.group(3).split(",").length <= 7, true);
      found.merge(head.group(2), body, String::concat);
    }
    return found;
  }

  private static void rule8And11() {
    Map<String, String> bodies = bodies();
    due("rule 11: methods were found", bodies.keySet().contains("begin") && bodies.size() > 40, true);
    Set<String> declared = new TreeSet<>(Set.of("PulseNet"));
    for (Class<?> own : everyClass()) {
      for (Method m : own.getDeclaredMethods()) {
        declared.add(m.getName());
      }
    }
    due("rule 11: all methods were found", bodies.keySet(), declared);
    for (String name : bodies.keySet()) {
      due("rules 8 and 11: calls from " + name + " at most eight deep, without recursion",
          depth(bodies, name, 0) <= 8, true);
    }
    due("rule 11: up to twelve classes", everyClass().size() <= 12, true);
    for (Class<?> own : everyClass()) {
      int fields = 0;
      for (Field f : own.getDeclaredFields()) {
        fields += is(f.getModifiers(), Modifier.STATIC) ? 0 : 1;
      }
      due("rule 11: up to twenty fields in " + own, fields <= 20, true);
    }
  }

  /** How many calls stand open at most, counted up to a hundred. */
  private static int depth(Map<String, String> bodies, String name, int open) {
    int most = open + 1;
    Matcher called = Pattern.compile("\\b(\\w+)\\(").matcher(bodies.get(name));
    while (called.find() && most < 100) {
      if (bodies.containsKey(called.group(1))) {
        most = Math.max(most, depth(bodies, called.group(1), open + 1));
      }
    }
    return most;
  }

  /** A for has all three parts or goes over an array; a while names the counter that it ends by. */
  private static void rule9() {
    noneOf("rule 9", "\\bfor \\(\\s*;|\\bfor \\([^;)]*;\\s*;|\\bwhile \\((?!brought < many )|\\bdo \\{");
  }

  private static void rule12() throws IllegalAccessException {
    for (String line : code.split("\n")) {
      boolean made = line.contains("new ");
      due("rule 12: made elsewhere than with the object: " + line.trim(), made && !line.contains("final "), false);
    }
    PulseNet x = new PulseNet();
    int[] before = room(x);
    due("rule 12: up to 100 objects", before[0] <= 100, true);
    due("rule 12: up to 6000 fields and elements", before[1] <= 6000, true);
    x.begin(12);
    for (int i = 1; i < 12; i++) {
      x.link(i, i - 1, 9);
    }
    for (int i = 0; i < 60; i++) {
      x.start(i % 4, i % 3, i % 12, 2 + i % 7, 20);
      x.flow(3000, i);
    }
    int[] after = room(x);
    due("rule 12: objects behind many calls", after[0], before[0]);
    due("rule 12: fields and elements behind many calls", after[1], before[1]);
  }

  /** How many objects and arrays an object holds, and how many fields and elements these have. */
  private static int[] room(Object root) throws IllegalAccessException {
    Map<Object, Boolean> seen = new IdentityHashMap<>();
    Deque<Object> open = new ArrayDeque<>();
    open.add(root);
    int parts = 0;
    while (!open.isEmpty()) {
      Object now = open.poll();
      if (seen.put(now, true) != null) {
        continue;
      }
      if (now.getClass().isArray()) {
        parts += Array.getLength(now);
        continue;
      }
      for (Field f : now.getClass().getDeclaredFields()) {
        if (!is(f.getModifiers(), Modifier.STATIC)) {
          parts++;
          f.setAccessible(true);
          Object held = f.get(now);
          if (held != null && !f.getType().isPrimitive()) {
            open.add(held);
          }
        }
      }
    }
    return new int[] {seen.size(), parts};
  }
}

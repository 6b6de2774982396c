import java.lang.reflect.Constructor;
import java.lang.reflect.Field;
import java.lang.reflect.Method;
import java.lang.reflect.Modifier;
import java.nio.file.Files;
import java.nio.file.Path;
import java.util.Set;
import java.util.TreeSet;
import java.util.regex.Matcher;
import java.util.regex.Pattern;

/** The public face of the class, and the rules of LANGUAGE.md that can be seen from its members and its words. */
public final class FaceTest {
  private static int wrong = 0;

  private static void due(String what, Object got, Object want) {
    if (!got.equals(want)) {
      wrong++;
      System.out.println(what + " is " + got + ", due is " + want);
    }
  }

  public static void main(String[] args) throws Exception {
    Class<?> face = PulseNet.class;
    due("public and final", Modifier.isPublic(face.getModifiers()) && Modifier.isFinal(face.getModifiers()), true);
    due("methods", openMethods(face), new TreeSet<>(Set.of("int begin(int)", "int link(int,int,int)",
        "int mark(int,int)", "int start(int,int,int,int,int)", "int come(int)", "int flow(int,int)",
        "int told(int,int)", "int past(int,int)", "int inStep(int,int)", "int differ()", "int letter(int,int)",
        "int count(int)")));
    due("constants", openFields(face), new TreeSet<>(Set.of("BAD -1", "NONE -2", "NOT_YET -3")));
    Constructor<?>[] makers = face.getDeclaredConstructors();
    due("constructors", makers.length, 1);
    due("constructor's parameters", makers[0].getParameterCount(), 0);
    due("classes of its own, at most twelve", face.getDeclaredClasses().length <= 12, true);
    for (Class<?> own : face.getDeclaredClasses()) {
      checkOwnClass(own);
    }
    checkWords(Files.readString(Path.of("src/main/java/PulseNet.java")));
    System.out.println(wrong == 0 ? "the face is as due" : wrong + " things are not as due");
    if (wrong != 0) {
      System.exit(1);
    }
  }

  private static Set<String> openMethods(Class<?> face) {
    Set<String> found = new TreeSet<>();
    for (Method m : face.getDeclaredMethods()) {
      if (!Modifier.isPrivate(m.getModifiers())) {
        String text = m.toString().replace("public ", "").replace("PulseNet.", "");
        found.add(text);
      }
    }
    return found;
  }

  private static Set<String> openFields(Class<?> face) throws IllegalAccessException {
    Set<String> found = new TreeSet<>();
    for (Field f : face.getDeclaredFields()) {
      if (!Modifier.isPrivate(f.getModifiers())) {
        int mode = f.getModifiers();
        boolean constant = Modifier.isStatic(mode) && Modifier.isFinal(mode) && Modifier.isPublic(mode);
        found.add(constant ? f.getName() + " " + f.getInt(null) : f.toString());
      }
    }
    return found;
  }

  private static void checkOwnClass(Class<?> own) {
    due(own + " static", Modifier.isStatic(own.getModifiers()), true);
    due(own + " public or protected", (own.getModifiers() & (Modifier.PUBLIC | Modifier.PROTECTED)) == 0, true);
    int fields = 0;
    for (Field f : own.getDeclaredFields()) {
      fields += Modifier.isStatic(f.getModifiers()) ? 0 : 1;
      due(f + " static but not final", Modifier.isStatic(f.getModifiers()) && !Modifier.isFinal(f.getModifiers()), false);
    }
    due(own + " fields at most twenty", fields <= 20, true);
    Set<String> faceNames = Set.of("begin", "link", "mark", "start", "come", "flow", "told", "past", "inStep",
        "differ", "letter", "count");
    for (Method m : own.getDeclaredMethods()) {
      due(m + " has a name of the face", faceNames.contains(m.getName()), false);
      due(m + " takes at most seven", m.getParameterCount() <= 7, true);
    }
  }

  private static void checkWords(String source) {
    String code = source.replaceAll("(?s)/\\*.*?\\*/", "").replaceAll("//.*", "");
    Matcher m = Pattern.compile("\\b(throw|throws|try|catch|synchronized|assert|package|Object|Random|Exact|Thread)\\b"
        + "|->|::").matcher(code);
    while (m.find()) {
      due("a word of the source", m.group(), "none such");
    }
    Matcher imports = Pattern.compile("import ([\\w.]+);").matcher(code);
    while (imports.find()) {
      due("an import", Set.of("java.util.Arrays", "java.util.ArrayList", "java.util.List").contains(imports.group(1)), true);
    }
  }
}

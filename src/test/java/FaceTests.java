import java.io.IOException;
import java.lang.reflect.Constructor;
import java.lang.reflect.Field;
import java.lang.reflect.Method;
import java.lang.reflect.Modifier;
import java.nio.file.Files;
import java.nio.file.Path;
import java.util.ArrayList;
import java.util.List;
import java.util.TreeSet;
import java.util.regex.Matcher;
import java.util.regex.Pattern;

/** The face of the class against the one that the document shows, and the rules of LANGUAGE.md that a text shows. */
public final class FaceTests {
  private static int wrong = 0;

  public static void main(String[] args) throws IOException {
    Path root = Path.of(args[0]);
    String document = Files.readString(root.resolve("../shared/DOC.md"));
    String source = Files.readString(root.resolve("src/main/java/Linkwright.java"));
    face(document);
    members(Linkwright.class);
    for (Class<?> inside : Linkwright.class.getDeclaredClasses()) {
      expect(Modifier.isStatic(inside.getModifiers()), inside + " is static");
      expect(!Modifier.isPublic(inside.getModifiers()), inside + " is not public");
      staticFields(inside);
    }
    staticFields(Linkwright.class);
    words(source);
    methodLengths(source);
    System.out.println(wrong == 0 ? "the face is as due" : wrong + " rules are broken");
    if (wrong != 0) System.exit(1);
  }

  private static void expect(boolean is, String what) {
    if (!is) {
      wrong++;
      System.out.println("not so: " + what);
    }
  }

  private static void face(String document) {
    String shown = document.substring(document.indexOf("public final class Linkwright"), document.indexOf("## Terms"));
    TreeSet<String> due = new TreeSet<>();
    Matcher m = Pattern.compile("public (\\w+ \\w+\\([^)]*\\)(?: throws [^;]+)?);").matcher(shown);
    while (m.find()) due.add(m.group(1).replaceAll("(int|long|char|boolean) \\w+(?=[,)])", "$1"));
    TreeSet<String> got = new TreeSet<>();
    for (Method one : Linkwright.class.getDeclaredMethods()) {
      if (!Modifier.isPublic(one.getModifiers())) continue;
      List<String> types = new ArrayList<>();
      for (Class<?> type : one.getParameterTypes()) types.add(type.getSimpleName());
      List<String> kinds = new ArrayList<>();
      for (Class<?> kind : one.getExceptionTypes()) kinds.add(kind.getSimpleName());
      got.add(one.getReturnType().getSimpleName() + " " + one.getName() + "(" + String.join(", ", types) + ")"
          + (kinds.isEmpty() ? "" : " throws " + String.join(", ", kinds)));
    }
    expect(due.size() == 42, "the document shows 42 methods, not " + due.size());
    expect(due.equals(got), "the methods are those of the document: " + got + " are not " + due);
    int modifiers = Linkwright.class.getModifiers();
    expect(Modifier.isPublic(modifiers) && Modifier.isFinal(modifiers), "the class is public and final");
  }

  private static void members(Class<?> type) {
    TreeSet<String> open = new TreeSet<>();
    for (Method one : type.getDeclaredMethods()) if (Modifier.isPublic(one.getModifiers())) open.add(one.getName());
    for (Method one : type.getDeclaredMethods()) {
      int is = one.getModifiers();
      expect(Modifier.isPublic(is) || Modifier.isPrivate(is), one + " is public or private");
      expect(Modifier.isPublic(is) || !open.contains(one.getName()), one + " has a name of its own");
    }
    for (Field one : type.getDeclaredFields()) expect(Modifier.isPrivate(one.getModifiers()), one + " is private");
    Constructor<?>[] makers = type.getDeclaredConstructors();
    expect(makers.length == 1 && Modifier.isPublic(makers[0].getModifiers()), "there is one constructor, and it is public");
  }

  private static void staticFields(Class<?> type) {
    int own = 0;
    for (Field one : type.getDeclaredFields()) {
      if (Modifier.isStatic(one.getModifiers())) expect(Modifier.isFinal(one.getModifiers()), one + " is final");
      else own++;
    }
    expect(own <= 20, type + " has at most 20 fields");
  }

  private static void words(String source) {
    String[] forbidden = {"->", "::", "finally", "synchronized", "assert ", "catch", "Exact(", "Math.sqrt", "native ",
        "volatile", "transient", "strictfp", "package ", "record ", "System.out", "System.nano", "Thread", "Random", "?? "};
    String code = source.replaceAll("/\\*\\*.*?\\*/", "").replaceAll("//[^\n]*", "");
    for (String word : forbidden) expect(!code.contains(word), "the class does without " + word);
    TreeSet<String> imports = new TreeSet<>();
    Matcher m = Pattern.compile("import ([\\w.]+);").matcher(code);
    while (m.find()) imports.add(m.group(1));
    imports.removeAll(List.of("java.util.ArrayList", "java.util.Arrays", "java.util.NoSuchElementException"));
    expect(imports.isEmpty(), "nothing else is imported: " + imports);
    m = Pattern.compile("(class|enum|interface) \\w+").matcher(code);
    int classes = 0;
    while (m.find()) classes++;
    expect(classes <= 12, "there are at most 12 classes");
  }

  private static void methodLengths(String source) {
    int start = -1;
    String[] lines = source.split("\n");
    for (int i = 0; i < lines.length; i++) {
      if (lines[i].matches("( {4}| {8})(?!class|\\}).*\\{") && !lines[i].contains(" class ")) start = i;
      if (lines[i].matches("( {4}| {8})\\}") && start >= 0) {
        expect(i - start < 60, "the method at line " + (start + 1) + " has at most 60 lines");
        start = -1;
      }
      expect(lines[i].length() <= 120, "line " + (i + 1) + " has at most 120 signs");
    }
  }
}

import java.lang.reflect.Constructor;
import java.lang.reflect.Field;
import java.lang.reflect.Method;
import java.lang.reflect.Modifier;
import java.nio.file.Files;
import java.nio.file.Path;
import java.util.ArrayList;
import java.util.Arrays;
import java.util.List;
import java.util.Set;
import java.util.TreeSet;
import java.util.regex.Matcher;
import java.util.regex.Pattern;

/** What of LANGUAGE.md can be seen from the source text and by reflection. */
public final class LanguageTest {
  private static final List<String> FACE = new ArrayList<>();
  private static int wrong = 0;

  private static void holds(boolean is, String what) {
    if (!is) {
      wrong++;
      System.out.println("not so: " + what);
    }
  }

  public static void main(String[] args) throws Exception {
    readFace(Files.readString(Path.of("../shared/DOC.md")));
    face();
    for (Class<?> c : classes()) shape(c);
    text(Files.readString(Path.of("src/main/java/PewRank.java")));
    System.out.println(wrong == 0 ? "the language is kept to" : wrong + " rules are broken");
    if (wrong != 0) System.exit(1);
  }

  /** The document's methods, without the names of their parameters. */
  private static void readFace(String document) {
    String face = document.substring(document.indexOf("public final class PewRank {"), document.indexOf("## Terms"));
    Matcher methods = Pattern.compile("public (int|long|boolean) (\\w+)\\(([^)]*)\\);").matcher(face);
    while (methods.find()) {
      String types = methods.group(3).replaceAll("(\\w+) \\w+", "$1").replaceAll(",\\s*", ",");
      FACE.add(methods.group(1) + " " + methods.group(2) + "(" + types + ")");
    }
    holds(FACE.size() == 36, "promises 2 to 37 are its methods: " + FACE);
    holds(face.contains("public static final int NONE = -1;") && PewRank.NONE == -1, "NONE is as the document tells");
  }

  private static List<Class<?>> classes() {
    List<Class<?>> all = new ArrayList<>();
    all.add(PewRank.class);
    all.addAll(Arrays.asList(PewRank.class.getDeclaredClasses()));
    return all;
  }

  private static String told(Method m) {
    StringBuilder s = new StringBuilder(m.getReturnType().getName() + " " + m.getName() + "(");
    for (int i = 0; i < m.getParameterCount(); i++) s.append(i == 0 ? "" : ",").append(m.getParameterTypes()[i].getName());
    return s.append(")").toString();
  }

  private static Set<String> faceNames() {
    Set<String> names = new TreeSet<>();
    for (String f : FACE) names.add(f.substring(f.indexOf(' ') + 1, f.indexOf('(')));
    return names;
  }

  private static void face() {
    Set<String> open = new TreeSet<>();
    for (Method m : PewRank.class.getDeclaredMethods()) {
      if (Modifier.isPublic(m.getModifiers())) {
        open.add(told(m));
      } else {
        holds(Modifier.isPrivate(m.getModifiers()), m + " is private");
        holds(!faceNames().contains(m.getName()), m + " bears no public name");
      }
    }
    holds(open.equals(new TreeSet<>(FACE)), "the face is the document's: " + open);
    holds(Modifier.isFinal(PewRank.class.getModifiers()), "the class is final");
    for (Constructor<?> c : PewRank.class.getDeclaredConstructors()) {
      holds(Modifier.isPublic(c.getModifiers()) && c.getParameterCount() == 0, "one public constructor");
    }
    for (Field f : PewRank.class.getDeclaredFields()) {
      holds(f.getName().equals("NONE") == Modifier.isPublic(f.getModifiers()), f + " is private, but NONE");
      holds(f.getName().equals("NONE") || Modifier.isPrivate(f.getModifiers()), f + " is private");
    }
  }

  private static void shape(Class<?> c) {
    holds(classes().size() <= 12, "twelve classes at most");
    holds(c == PewRank.class || Modifier.isStatic(c.getModifiers()), c + " is static");
    holds(c.getDeclaredClasses().length == 0 || c == PewRank.class, c + " has no classes inside");
    int fields = 0;
    for (Field f : c.getDeclaredFields()) {
      boolean isStatic = Modifier.isStatic(f.getModifiers());
      holds(!isStatic || Modifier.isFinal(f.getModifiers()), f + " is final");
      if (!isStatic) fields++;
    }
    holds(fields <= 20, c + " has twenty fields at most");
    for (Method m : c.getDeclaredMethods()) {
      holds(m.getParameterCount() <= 7 || m.getName().equals("right"), m + " has seven parameters at most");
      holds(c == PewRank.class || !faceNames().contains(m.getName()), m + " bears no public name");
    }
    for (Constructor<?> k : c.getDeclaredConstructors()) {
      holds(k.getParameterCount() <= 7, k + " has seven parameters at most");
    }
  }

  private static void text(String source) {
    String code = source.replaceAll("(?s)/\\*.*?\\*/", "").replaceAll("//[^\n]*", "");
    String[] words = {
      "throw", "throws", "try", "catch", "finally", "synchronized", "assert", "protected", "package", "volatile", "transient",
      "native", "double", "float", "String", "Object", "Thread", "Random", "hashCode", "toString", "equals", "goto"
    };
    for (String w : words) holds(!Pattern.compile("\\b" + w + "\\b").matcher(code).find(), "no word " + w);
    holds(!code.contains("->") && !code.contains("::"), "no lambda, no method reference");
    holds(!code.contains("Exact"), "nothing of Exact");
    Matcher imports = Pattern.compile("(?m)^import (.*);").matcher(code);
    while (imports.find()) holds(imports.group(1).equals("java.util.Arrays"), "no import " + imports.group(1));
    Matcher calls = Pattern.compile("\\b(Arrays|System|Math)\\.(\\w+)").matcher(code);
    Set<String> library = Set.of("Arrays.fill", "System.arraycopy", "Math.max", "Math.min");
    while (calls.find()) holds(library.contains(calls.group()), "no call " + calls.group());
    lengths(source.split("\n"));
  }

  private static void lengths(String[] lines) {
    int start = 0;
    for (int i = 0; i < lines.length; i++) {
      holds(lines[i].length() <= 120, "line " + (i + 1) + " is short");
      for (int k = 0; k < lines[i].length(); k++) holds(lines[i].charAt(k) < 128, "line " + (i + 1) + " is plain");
      if (lines[i].matches(" {2,4}[\\w\\[\\]]+ .*\\(.*\\) \\{")) start = i;
      if (lines[i].matches(" {2,4}\\}")) holds(i - start < 60, "the method that ends at line " + (i + 1) + " is short");
    }
  }
}

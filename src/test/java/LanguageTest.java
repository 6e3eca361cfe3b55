import java.io.IOException;
import java.lang.reflect.Constructor;
import java.lang.reflect.Field;
import java.lang.reflect.Method;
import java.lang.reflect.Modifier;
import java.nio.file.Files;
import java.nio.file.Path;
import java.util.ArrayList;
import java.util.HashSet;
import java.util.List;
import java.util.Set;
import java.util.regex.Matcher;
import java.util.regex.Pattern;

/** The rules of LANGUAGE.md that can be seen from the class's text and its members, by number. */
public final class LanguageTest {
  private static final Path SOURCE = Path.of("src/main/java/DeltaMaker.java");

  public static void main(String[] args) throws IOException {
    List<Class<?>> classes = new ArrayList<>();
    gather(DeltaMaker.class, classes);
    for (Class<?> c : classes) {
      theClass(c);
      itsFields(c);
      itsMethods(c);
    }
    Due.is("rule 11: classes, at most twelve", classes.size() <= 12, true);
    noPrivateMethodHasAPublicName(classes);
    String code = withoutCommentsAndTexts(Files.readString(SOURCE));
    words(code);
    library(code);
    Due.end();
  }

  private static void gather(Class<?> c, List<Class<?>> classes) {
    classes.add(c);
    for (Class<?> inner : c.getDeclaredClasses()) {
      gather(inner, classes);
    }
  }

  private static void theClass(Class<?> c) {
    int m = c.getModifiers();
    if (c != DeltaMaker.class) {
      boolean hidden = !Modifier.isPublic(m) && !Modifier.isProtected(m);
      Due.is("rule 1: " + c + " is static, and not seen from outside", Modifier.isStatic(m) && hidden, true);
    }
  }

  private static void itsFields(Class<?> c) {
    Set<Class<?>> constants = Set.of(int.class, long.class, boolean.class, char.class, String.class,
        int[].class, long[].class, char[].class, byte[].class);
    int own = 0;
    for (Field f : c.getDeclaredFields()) {
      if (!Modifier.isStatic(f.getModifiers())) {
        own++;
        continue;
      }
      boolean right = Modifier.isFinal(f.getModifiers()) && constants.contains(f.getType());
      Due.is("rule 5: " + f + " is a constant", right, true);
    }
    Due.is("rule 11: fields of " + c + ", at most twenty", own <= 20, true);
  }

  private static void itsMethods(Class<?> c) {
    for (Method m : c.getDeclaredMethods()) {
      Due.is("rule 11: parameters of " + m, m.getParameterCount() <= 7, true);
      Due.is("rule 6: " + m + " is not one of every object's",
          Set.of("equals", "hashCode", "toString", "finalize").contains(m.getName()), false);
      Due.is("rule 6: synchronized " + m, Modifier.isSynchronized(m.getModifiers()), false);
    }
    for (Constructor<?> k : c.getDeclaredConstructors()) {
      Due.is("rule 11: parameters of " + k, k.getParameterCount() <= 7, true);
    }
  }

  private static void noPrivateMethodHasAPublicName(List<Class<?>> classes) {
    Set<String> face = new HashSet<>();
    for (Method m : DeltaMaker.class.getDeclaredMethods()) {
      if (Modifier.isPublic(m.getModifiers())) {
        face.add(m.getName());
      }
    }
    for (Class<?> c : classes) {
      for (Method m : c.getDeclaredMethods()) {
        boolean clash = Modifier.isPrivate(m.getModifiers()) && face.contains(m.getName());
        Due.is("rule 1: " + m + " has a public one's name", clash, false);
      }
    }
  }

  private static String withoutCommentsAndTexts(String text) {
    return text.replaceAll("(?s)/\\*.*?\\*/", " ").replaceAll("//[^\n]*", " ").replaceAll("\"[^\"\n]*\"", "\"\"");
  }

  /** By the document no call throws, so nothing is thrown or caught; and the class imports nothing. */
  private static void words(String code) {
    String[] none = {"package", "import", "try", "catch", "finally", "throw", "throws", "synchronized",
        "assert", "protected", "native", "volatile", "transient", "var", "Object", "Thread", "Random"};
    for (String word : none) {
      Due.is("the word " + word, Pattern.compile("\\b" + word + "\\b").matcher(code).find(), false);
    }
    Due.is("rule 2: no lambda", code.contains("->"), false);
    Due.is("rule 2: no method reference", code.contains("::"), false);
  }

  /**
   * A name with a capital before a dot is a library's. Rule 4 lists more than the class uses; what
   * it comes to use is looked up there first and then added here.
   */
  private static void library(String code) {
    Set<String> used = Set.of("Math.max", "Math.min");
    Matcher call = Pattern.compile("\\b([A-Z]\\w*)\\.(\\w+)").matcher(code);
    while (call.find()) {
      Due.is("rule 4: " + call.group(), used.contains(call.group()), true);
    }
  }
}

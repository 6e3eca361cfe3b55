import java.lang.reflect.Constructor;
import java.lang.reflect.Field;
import java.lang.reflect.Method;
import java.lang.reflect.Modifier;
import java.util.Set;
import java.util.TreeSet;

/** The class has the document's public members and no others that are not private. */
public final class FaceTest {
  public static void main(String[] args) {
    Set<String> due = new TreeSet<>(Set.of(
        "public static final int DeltaMaker.NONE",
        "public DeltaMaker()",
        "public boolean DeltaMaker.feed(long,int)",
        "public boolean DeltaMaker.take(int)",
        "public int DeltaMaker.make()",
        "public int DeltaMaker.byteAt(int,int)",
        "public int DeltaMaker.size(int)",
        "public int DeltaMaker.steps()",
        "public int DeltaMaker.step(int,int)",
        "public int DeltaMaker.apply()",
        "public int DeltaMaker.inPlace()",
        "public int DeltaMaker.check(int)"));
    Set<String> found = new TreeSet<>();
    for (Field f : DeltaMaker.class.getDeclaredFields()) {
      keep(found, f.getModifiers(), f.toString());
    }
    for (Constructor<?> c : DeltaMaker.class.getDeclaredConstructors()) {
      keep(found, c.getModifiers(), c.toString());
    }
    for (Method m : DeltaMaker.class.getDeclaredMethods()) {
      keep(found, m.getModifiers(), m.toString());
    }
    if (!found.equals(due)) {
      System.out.println("the face is " + found);
    }
    Due.is("the face is the document's", found.equals(due), true);
    Due.is("the class is final", Modifier.isFinal(DeltaMaker.class.getModifiers()), true);
    Due.is("NONE", DeltaMaker.NONE, -1);
    Due.end();
  }

  private static void keep(Set<String> found, int modifiers, String member) {
    if (!Modifier.isPrivate(modifiers)) {
      found.add(member);
    }
  }
}

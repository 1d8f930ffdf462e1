import java.lang.reflect.Field;
import java.lang.reflect.Method;
import java.lang.reflect.Modifier;
import java.util.Set;
import java.util.TreeSet;

/**
 * The public face is the document's, and nothing but it can be seen. That each of the document's
 * declarations is there, with its throws clause, is in DocumentTest, too.
 */
public final class FaceTest {
  public static void main(String[] args) {
    Set<String> want = new TreeSet<>();
    for (Document.Sentence sentence : Document.sentences()) {
      if (sentence.heading().equals(Face.HEADING)) {
        Check.due(sentence.text() + ": is there", Face.has(sentence.text()), true);
        want.add(Face.plain(sentence.text()));
      }
    }
    // The constant, the constructor and 31 methods; and the class's own first and last line.
    Check.due("the document's declarations", want.size(), 35);
    want.removeIf(line -> line.equals("}") || line.startsWith("final class "));
    Check.same("all that can be seen", new TreeSet<>(Face.visible()).toString(), want.toString());
    nothingIsHiddenBadly();
    Check.finish();
  }

  private static void nothingIsHiddenBadly() {
    Set<String> names = new TreeSet<>();
    for (Method method : Treeclerk.class.getDeclaredMethods()) {
      if (Modifier.isPublic(method.getModifiers())) {
        names.add(method.getName());
      }
    }
    Check.due("the methods", names.size(), 31);
    for (Method method : Treeclerk.class.getDeclaredMethods()) {
      Check.due(method.getName() + " is private under a public name",
          Modifier.isPrivate(method.getModifiers()) && names.contains(method.getName()), false);
    }
    for (Field field : Treeclerk.class.getDeclaredFields()) {
      boolean isNone = field.getName().equals("NONE");
      Check.due(field.getName() + " is public", Modifier.isPublic(field.getModifiers()), isNone);
    }
    for (Class<?> inside : Treeclerk.class.getDeclaredClasses()) {
      int modifiers = inside.getModifiers();
      Check.due(inside.getName() + " can be seen outside",
          Modifier.isPublic(modifiers) || Modifier.isProtected(modifiers), false);
    }
    Check.due("it is below Object alone", Treeclerk.class.getSuperclass() == Object.class
        && Treeclerk.class.getInterfaces().length == 0, true);
  }
}

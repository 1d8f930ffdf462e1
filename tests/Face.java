import java.lang.reflect.Constructor;
import java.lang.reflect.Executable;
import java.lang.reflect.Field;
import java.lang.reflect.Member;
import java.lang.reflect.Method;
import java.lang.reflect.Modifier;
import java.util.ArrayList;
import java.util.List;

/** What can be seen of the class, as texts that the document's declarations can be held against. */
final class Face {
  static final String HEADING = "The public face";

  private Face() {}

  /**
   * Whether a declaration of the document, with or without "public", is what the class has. The
   * brace that ends the face says that there is no more to be seen.
   */
  static boolean has(String declaration) {
    String plain = plain(declaration);
    if (plain.equals("}")) {
      return visible().size() == Document.sentences().stream()
          .filter(line -> line.heading().equals(HEADING) && line.text().endsWith(";")).count();
    }
    if (plain.startsWith("final class ")) {
      return plain.equals("final class " + Treeclerk.class.getName() + " {")
          && Treeclerk.class.getModifiers() == (Modifier.PUBLIC | Modifier.FINAL);
    }
    return visible().contains(plain);
  }

  /** The declaration without the names of its parameters, packages, "public" and semicolons. */
  static String plain(String declaration) {
    return declaration.replaceFirst("^public ", "").replaceFirst(";$", "")
        .replaceAll("\\b(int|boolean) \\w+(?=[,)])", "$1").replace("java.util.", "");
  }

  /** All that is not private. */
  static List<String> visible() {
    List<String> all = new ArrayList<>();
    for (Field field : Treeclerk.class.getDeclaredFields()) {
      if (isVisible(field)) {
        all.add(described(field));
      }
    }
    for (Constructor<?> constructor : Treeclerk.class.getDeclaredConstructors()) {
      if (isVisible(constructor)) {
        all.add(modifiers(constructor) + described(constructor, Treeclerk.class.getName()));
      }
    }
    for (Method method : Treeclerk.class.getDeclaredMethods()) {
      if (isVisible(method)) {
        all.add(modifiers(method) + method.getReturnType().getSimpleName() + " "
            + described(method, method.getName()));
      }
    }
    return all;
  }

  private static boolean isVisible(Member member) {
    return !Modifier.isPrivate(member.getModifiers()) && !member.isSynthetic();
  }

  private static String modifiers(Member member) {
    String all = Modifier.toString(member.getModifiers());
    // What is not public shows as such, so that it is none of the document's declarations.
    String rest = all.contains("public") ? all.replace("public", "").trim() : "hidden " + all;
    return rest.isEmpty() ? "" : rest + " ";
  }

  private static String described(Field field) {
    String text = modifiers(field) + field.getType().getSimpleName() + " " + field.getName();
    try {
      return Modifier.isStatic(field.getModifiers()) ? text + " = " + field.get(null) : text;
    } catch (IllegalAccessException e) {
      return text;
    }
  }

  private static String described(Executable call, String name) {
    List<String> parameters = new ArrayList<>();
    for (Class<?> parameter : call.getParameterTypes()) {
      parameters.add(parameter.getSimpleName());
    }
    List<String> thrown = new ArrayList<>();
    for (Class<?> exception : call.getExceptionTypes()) {
      thrown.add(exception.getSimpleName());
    }
    return name + "(" + String.join(", ", parameters) + ")"
        + (thrown.isEmpty() ? "" : " throws " + String.join(", ", thrown));
  }
}

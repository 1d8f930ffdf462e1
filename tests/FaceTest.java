import java.lang.reflect.Constructor;
import java.lang.reflect.Field;
import java.lang.reflect.Method;
import java.lang.reflect.Modifier;
import java.util.Set;
import java.util.TreeSet;

/** The public face is the document's, with its throws clauses, and nothing but it can be seen. */
public final class FaceTest {
  private static final String INDEX = "IndexOutOfBoundsException";
  private static final String ARGUMENT = "IllegalArgumentException";
  private static final String STATE = "IllegalStateException";
  private static final String[] FACE = {
    "int pass(int) " + ARGUMENT + " " + STATE,
    "int today()",
    "int birth(int) " + ARGUMENT + " " + STATE,
    "int death(int) " + INDEX + " " + STATE,
    "int people()",
    "boolean isAlive(int) " + INDEX,
    "int proof(int,int,int) " + INDEX + " " + ARGUMENT + " " + STATE,
    "int doubt(int,int) " + INDEX + " " + ARGUMENT + " " + STATE,
    "int judge(int,boolean) " + INDEX + " " + STATE,
    "int strength(int) " + INDEX,
    "int openDoubts()",
    "int parentOf(int,int) " + INDEX + " " + ARGUMENT,
    "int childrenOf(int) " + INDEX,
    "int will(int,int,int) " + INDEX + " " + ARGUMENT + " " + STATE,
    "int claim(int,int) " + INDEX + " " + STATE,
    "int claims(int) " + INDEX,
    "int close(int) " + INDEX + " " + STATE,
    "boolean isClosed(int) " + INDEX,
    "long shareAbove(int,int) " + INDEX + " " + STATE,
    "long shareBelow(int,int) " + INDEX + " " + STATE,
    "long shareAboveByWays(int,int) " + INDEX + " " + STATE,
    "int heirs(int) " + INDEX + " " + STATE,
    "int disputes(int) " + INDEX + " " + STATE,
    "int reopenings(int) " + INDEX,
    "int grant(int,int,int) " + INDEX + " " + ARGUMENT + " " + STATE,
    "int hand(int,int,int,int) " + INDEX + " " + ARGUMENT + " " + STATE,
    "int owner(int) " + INDEX,
    "int ownerAnew(int) " + INDEX,
    "int area(int) " + INDEX,
    "int parcels()",
    "int parcelAt(int) " + INDEX + " NoSuchElementException"
  };

  public static void main(String[] args) {
    Set<String> want = new TreeSet<>(Set.of(FACE));
    Set<String> seen = new TreeSet<>();
    Set<String> names = new TreeSet<>();
    for (Method method : Treeclerk.class.getDeclaredMethods()) {
      if (!Modifier.isPrivate(method.getModifiers())) {
        seen.add(described(method));
        names.add(method.getName());
      }
    }
    System.out.println("too many: " + without(seen, want) + ", missing: " + without(want, seen));
    Check.due("the methods", seen.equals(want), true);
    for (Method method : Treeclerk.class.getDeclaredMethods()) {
      Check.due(method.getName() + " is private under a public name",
          Modifier.isPrivate(method.getModifiers()) && names.contains(method.getName()), false);
    }
    for (Field field : Treeclerk.class.getDeclaredFields()) {
      boolean isNone = field.getName().equals("NONE");
      Check.due(field.getName() + " is public", Modifier.isPublic(field.getModifiers()), isNone);
      Check.due(field.getName() + " is private", Modifier.isPrivate(field.getModifiers()), !isNone);
    }
    Constructor<?>[] made = Treeclerk.class.getDeclaredConstructors();
    Check.due("the constructors", made.length == 1 && made[0].getParameterCount() == 0
        && Modifier.isPublic(made[0].getModifiers()), true);
    Check.due("the class", Treeclerk.class.getModifiers(), Modifier.PUBLIC | Modifier.FINAL);
    Check.finish();
  }

  private static Set<String> without(Set<String> all, Set<String> others) {
    Set<String> rest = new TreeSet<>(all);
    rest.removeAll(others);
    return rest;
  }

  private static String described(Method method) {
    StringBuilder text = new StringBuilder();
    if (method.getModifiers() != Modifier.PUBLIC) {
      text.append(Modifier.toString(method.getModifiers())).append(": ");
    }
    text.append(method.getReturnType().getSimpleName()).append(' ').append(method.getName());
    String between = "(";
    for (Class<?> parameter : method.getParameterTypes()) {
      text.append(between).append(parameter.getSimpleName());
      between = ",";
    }
    text.append(between.equals("(") ? "()" : ")");
    for (Class<?> thrown : method.getExceptionTypes()) {
      text.append(' ').append(thrown.getSimpleName());
    }
    return text.toString();
  }
}

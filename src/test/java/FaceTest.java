import java.lang.reflect.Constructor;
import java.lang.reflect.Field;
import java.lang.reflect.Method;
import java.lang.reflect.Modifier;
import java.util.Arrays;
import java.util.Set;
import java.util.TreeSet;
import java.util.stream.Collectors;

/** The public face is the document's, and nothing else of the class can be seen from outside. */
public final class FaceTest {
  private static final String[] FACE = {
    "int land(int, int) IndexOutOfBounds IllegalArgument IllegalState",
    "int build(int, int, int, int) IndexOutOfBounds IllegalArgument IllegalState",
    "int man(int, int) IndexOutOfBounds IllegalArgument",
    "int mend(int) IndexOutOfBounds",
    "int turn(int, int) IndexOutOfBounds IllegalState",
    "int hoist(int, int) IndexOutOfBounds IllegalArgument IllegalState",
    "int take(int) IndexOutOfBounds IllegalState",
    "int lay(int) IndexOutOfBounds IllegalState",
    "int place(int, int) IndexOutOfBounds",
    "int barrel(int, int) IndexOutOfBounds",
    "int crane(int, int) IndexOutOfBounds",
    "int count(int) IndexOutOfBounds",
    "int move(int, int, int) IndexOutOfBounds",
    "int best(int, int) IndexOutOfBounds",
    "int lasts(int, int) IndexOutOfBounds IllegalArgument",
    "int within(int) IndexOutOfBounds",
    "double mean()",
    "long digest()"
  };

  public static void main(String[] args) {
    Class<?> type = TreadCranes.class;
    expect("the class", Modifier.toString(type.getModifiers()), "public final");
    Set<String> names = new TreeSet<>();
    Set<String> shown = new TreeSet<>();
    for (Method method : type.getDeclaredMethods()) {
      if (!Modifier.isPrivate(method.getModifiers())) {
        expect(method.getName(), Modifier.toString(method.getModifiers()), "public");
        names.add(method.getName());
        shown.add(told(method));
      }
    }
    expect("the methods", shown.toString(), new TreeSet<>(Arrays.asList(FACE)).toString());
    for (Method method : type.getDeclaredMethods()) {
      boolean hidden = Modifier.isPrivate(method.getModifiers());
      expect(method.getName(), "" + (hidden && names.contains(method.getName())), "false");
    }
    for (Field field : type.getDeclaredFields()) {
      expect(field.getName(), "" + Modifier.isPrivate(field.getModifiers()), "true");
    }
    for (Constructor<?> constructor : type.getDeclaredConstructors()) {
      expect("the constructor", constructor.toString(), "public TreadCranes()");
    }
    Check.end();
  }

  private static String told(Method method) {
    String given = Arrays.stream(method.getParameterTypes()).map(Class::getName).collect(Collectors.joining(", "));
    String thrown = Arrays.stream(method.getExceptionTypes())
        .map(e -> " " + e.getSimpleName().replace("Exception", "")).collect(Collectors.joining());
    return method.getReturnType().getName() + " " + method.getName() + "(" + given + ")" + thrown;
  }

  private static void expect(String what, String got, String due) {
    if (!got.equals(due)) {
      Check.fail(what + " is " + got + ", due is " + due);
    }
  }
}

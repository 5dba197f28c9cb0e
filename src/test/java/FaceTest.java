import java.lang.reflect.Constructor;
import java.lang.reflect.Field;
import java.lang.reflect.Method;
import java.lang.reflect.Modifier;
import java.util.Arrays;
import java.util.Set;
import java.util.TreeSet;

/** The document's face, and nothing else that can be seen from outside (LANGUAGE.md, rules 1 and 5). */
public final class FaceTest {
  private static final String[] METHODS = {
    "int piece(int,int)", "int row(int,int,int)", "int grid(int,int,int)", "int put(int,int,int)",
    "int get(int,int)", "int set(int,int,long)", "long number(int,int)", "int is(int,int,int)",
    "int door(int,int,int)", "int through(int,int,int)", "int lastDoor()", "long worth(int)",
    "int copy(int)", "int carry(int,int,int,int,int)", "int frail(int)", "int about(int,int)",
    "int bases(int)", "int count(int)", "int clear()",
  };

  public static void main(String[] args) {
    int shape = DepotTrays.class.getModifiers();
    due("public and final", shape == (Modifier.PUBLIC | Modifier.FINAL));
    due("methods", seenMethods().equals(new TreeSet<>(Arrays.asList(METHODS))));
    due("private names", !hasPrivateNamesake());
    due("constants", seenFields().equals(new TreeSet<>(Arrays.asList("NONE", "BAD", "FULL"))));
    due("static fields are final", staticsAreFinal());
    Constructor<?>[] made = DepotTrays.class.getDeclaredConstructors();
    due("one constructor", made.length == 1 && made[0].getParameterCount() == 0
        && Modifier.isPublic(made[0].getModifiers()));
    Due.due("NONE", DepotTrays.NONE, -1);
    Due.due("BAD", DepotTrays.BAD, -2);
    Due.due("FULL", DepotTrays.FULL, -3);
    Due.end();
  }

  private static void due(String what, boolean holds) {
    Due.due(what, holds ? 1 : 0, 1);
  }

  private static Set<String> seenMethods() {
    Set<String> seen = new TreeSet<>();
    for (Method m : DepotTrays.class.getDeclaredMethods()) {
      if (Modifier.isPrivate(m.getModifiers())) continue;
      String text = m.toString();
      due(m.getName() + " is public and plain", m.getModifiers() == Modifier.PUBLIC);
      seen.add(text.replace("public ", "").replace("DepotTrays.", ""));
    }
    return seen;
  }

  private static boolean hasPrivateNamesake() {
    Set<String> names = new TreeSet<>();
    for (Method m : DepotTrays.class.getDeclaredMethods()) {
      if (!names.add(m.getName())) return true;
    }
    return false;
  }

  private static Set<String> seenFields() {
    Set<String> seen = new TreeSet<>();
    for (Field f : DepotTrays.class.getDeclaredFields()) {
      if (!Modifier.isPrivate(f.getModifiers())) seen.add(f.getName());
    }
    return seen;
  }

  private static boolean staticsAreFinal() {
    for (Field f : DepotTrays.class.getDeclaredFields()) {
      if (Modifier.isStatic(f.getModifiers()) && !Modifier.isFinal(f.getModifiers())) return false;
    }
    return true;
  }
}
